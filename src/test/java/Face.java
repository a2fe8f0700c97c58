import java.lang.reflect.Constructor;
import java.lang.reflect.Field;
import java.lang.reflect.Method;
import java.lang.reflect.Modifier;
import java.util.Set;
import java.util.TreeSet;

/** The class has the document's face and nothing more (rule 1 of LANGUAGE.md). */
public final class Face {
    private static final String[] METHODS = {
        "plate(int,int,int,int,int)", "defect(int,int,int,int)", "kind(int,int,int,boolean)", "value(int,int)",
        "worth(int,int,int,int,int)", "pieces()", "piece(int,int)", "cuts()", "cut(int,int)", "waste()",
        "stock(int,int)", "order(int,int)", "demand(int,int)", "blade(int)", "price()", "bars()", "bar(int,int)",
        "told(int)", "noKinds()", "noBars()",
    };

    public static void main(String[] args) {
        Class<?> c = CuttingRules.class;
        Due.holds("public final", Modifier.isPublic(c.getModifiers()) && Modifier.isFinal(c.getModifiers()));
        Due.is("NONE", CuttingRules.NONE, -1);
        Due.is("UNKNOWN", CuttingRules.UNKNOWN, -2);
        Due.is("OUTSIDE", CuttingRules.OUTSIDE, -3);
        Due.is("ROOM", CuttingRules.ROOM, -4);
        sameSets("methods", new TreeSet<>(Set.of(METHODS)), methods(c));
        sameSets("fields", new TreeSet<>(Set.of("NONE", "UNKNOWN", "OUTSIDE", "ROOM")), fields(c));
        Constructor<?>[] constructors = c.getDeclaredConstructors();
        Due.is("constructors", constructors.length, 1);
        Due.is("parameters of the constructor", constructors[0].getParameterCount(), 0);
        Due.holds("public constructor", Modifier.isPublic(constructors[0].getModifiers()));
        for (Class<?> inside : c.getDeclaredClasses()) {
            insideIsFine(inside);
        }
        Due.end();
    }

    private static Set<String> methods(Class<?> c) {
        Set<String> found = new TreeSet<>();
        for (Method m : c.getDeclaredMethods()) {
            if (!Modifier.isPrivate(m.getModifiers())) {
                String text = m.toString();
                Due.holds(text + " is public and answers an int",
                        Modifier.isPublic(m.getModifiers()) && !Modifier.isStatic(m.getModifiers()) && m.getReturnType() == int.class);
                found.add(text.substring(text.indexOf("CuttingRules.") + "CuttingRules.".length()));
            } else {
                isNoPublicName(m);
            }
        }
        return found;
    }

    private static Set<String> fields(Class<?> c) {
        Set<String> found = new TreeSet<>();
        for (Field f : c.getDeclaredFields()) {
            if (!Modifier.isPrivate(f.getModifiers())) {
                found.add(f.getName());
            }
            staticIsFinal(f);
        }
        return found;
    }

    private static void insideIsFine(Class<?> inside) {
        Due.holds(inside + " is static", Modifier.isStatic(inside.getModifiers()));
        Due.holds(inside + " is not public", !Modifier.isPublic(inside.getModifiers()));
        int fields = 0;
        for (Field f : inside.getDeclaredFields()) {
            staticIsFinal(f);
            fields += Modifier.isStatic(f.getModifiers()) ? 0 : 1;
        }
        Due.holds(inside + " has twenty fields at most", fields <= 20);
        for (Method m : inside.getDeclaredMethods()) {
            if (Modifier.isPrivate(m.getModifiers())) {
                isNoPublicName(m);
            }
            Due.holds(m + " takes seven parameters at most", m.getParameterCount() <= 7);
        }
    }

    private static void staticIsFinal(Field f) {
        Due.holds(f + " is final", !Modifier.isStatic(f.getModifiers()) || Modifier.isFinal(f.getModifiers()));
    }

    private static void isNoPublicName(Method m) {
        for (String name : METHODS) {
            Due.holds(m + " bears the name of a public method", !name.startsWith(m.getName() + "("));
        }
    }

    private static void sameSets(String what, Set<String> due, Set<String> found) {
        Due.holds(what + ": due are " + due + ", found are " + found, due.equals(found));
    }
}
