import java.lang.reflect.Constructor;
import java.lang.reflect.Field;
import java.lang.reflect.Method;
import java.lang.reflect.Modifier;
import java.util.TreeSet;

/** The public face is the document's, and nothing else of the class can be seen (LANGUAGE.md, rule 1). */
public final class FaceTest {
    private static final String[] FACE = {
        "int isle(int)", "int tenant(int,int)", "int comes(int,int)", "int stores(int,int)", "int set(int,int)",
        "int lends(int,int,int)", "int days(int)", "int tenantThen(int,int,int)", "int then(int,int)", "int goes(int)",
        "int empty()", "int rent(int)", "int bestSea(int,int)", "int leastBirds()", "int leastStore(int)",
        "int lend(int,int)", "int send(int,int)", "int richest(int)", "int whatIs(int,int,int)", "int whichSea(int)",
        "int two(int,int,int)", "long storms(int,int,int,int,int)", "long share(int,int)", "int forged(int)",
        "int judge(int)", "int years(int,int,int)", "int image()", "int restore()", "int count(int)",
        "int keep(int,int,int,int)", "int row(int,int,int)", "int put(int,int,int)", "long element(int,int)",
        "int copy(int,int,int,int,int)", "int cost(int)", "int toss(int)"};

    public static void main(String[] args) {
        TreeSet<String> want = new TreeSet<>();
        for (String one : FACE) {
            want.add(one);
        }
        TreeSet<String> got = new TreeSet<>();
        TreeSet<String> names = new TreeSet<>();
        for (Method m : LetByTheBirds.class.getDeclaredMethods()) {
            if (Modifier.isPublic(m.getModifiers())) {
                got.add(told(m));
                names.add(m.getName());
            }
        }
        Check.dueSame("the public methods", got.toString(), want.toString());
        for (Method m : LetByTheBirds.class.getDeclaredMethods()) {
            int how = m.getModifiers();
            Check.due(m + " is public or private", Modifier.isPublic(how) != Modifier.isPrivate(how) ? 1 : 0, 1);
            Check.due(m + " has a name of its own", Modifier.isPrivate(how) && names.contains(m.getName()) ? 1 : 0, 0);
            Check.due(m + " takes seven at most", m.getParameterCount() <= 7 ? 1 : 0, 1);
        }
        for (Field f : LetByTheBirds.class.getDeclaredFields()) {
            int how = f.getModifiers();
            Check.due(f + " is private", Modifier.isPrivate(how) ? 1 : 0, 1);
            Check.due(f + " is no static state", Modifier.isStatic(how) && !Modifier.isFinal(how) ? 1 : 0, 0);
        }
        Constructor<?>[] made = LetByTheBirds.class.getDeclaredConstructors();
        Check.due("constructors", made.length, 1);
        Check.due("its parameters", made[0].getParameterCount(), 0);
        Check.due("it is public", Modifier.isPublic(made[0].getModifiers()) ? 1 : 0, 1);
        Check.due("the class is final", Modifier.isFinal(LetByTheBirds.class.getModifiers()) ? 1 : 0, 1);
        Check.end();
    }

    private static String told(Method m) {
        StringBuilder b = new StringBuilder(m.getReturnType().toString()).append(' ').append(m.getName()).append('(');
        String comma = "";
        for (Class<?> p : m.getParameterTypes()) {
            b.append(comma).append(p);
            comma = ",";
        }
        return b.append(')').toString();
    }
}
