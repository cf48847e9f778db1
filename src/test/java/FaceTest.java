import java.io.IOException;
import java.lang.reflect.Constructor;
import java.lang.reflect.Field;
import java.lang.reflect.Method;
import java.lang.reflect.Modifier;
import java.nio.file.Files;
import java.nio.file.Path;
import java.util.TreeSet;
import java.util.regex.Matcher;
import java.util.regex.Pattern;

/** The public face is the document's, and nothing else of the class can be seen (LANGUAGE.md, rules 1, 2, 5 and 11). */
public final class FaceTest {
    private static final Path DOCUMENT = Path.of("../shared/DOC.md");
    private static final Pattern METHOD =
        Pattern.compile("    public (int|long) (\\w+)\\(([^)]*)\\)(?: throws ([^;]*))?;");
    private static final int METHODS = 36;
    private static final int MOST_PARAMETERS = 7;
    private static final int MOST_CLASSES = 12;
    private static final int MOST_FIELDS = 20;

    public static void main(String[] args) throws IOException {
        Class<LetByTheBirds> all = LetByTheBirds.class;
        TreeSet<String> want = toldByDocument();
        Check.due("methods in the document", want.size(), METHODS);
        Check.dueSame("the public methods", publicMethods(all, true).toString(), want.toString());
        Check.due("the class is public", Modifier.isPublic(all.getModifiers()) ? 1 : 0, 1);
        Check.due("the class is final", Modifier.isFinal(all.getModifiers()) ? 1 : 0, 1);
        Constructor<?>[] made = all.getDeclaredConstructors();
        Check.due("constructors", made.length, 1);
        Check.due("its parameters", made[0].getParameterCount(), 0);
        Check.due("what it throws", made[0].getExceptionTypes().length, 0);
        Check.due("it is public", Modifier.isPublic(made[0].getModifiers()) ? 1 : 0, 1);
        for (Method m : all.getDeclaredMethods()) {
            int how = m.getModifiers();
            Check.due(m + " is public or private", Modifier.isPublic(how) != Modifier.isPrivate(how) ? 1 : 0, 1);
            Check.due(m + " is an object's", Modifier.isPublic(how) && Modifier.isStatic(how) ? 1 : 0, 0);
        }
        for (Field f : all.getDeclaredFields()) {
            Check.due(f + " is private", Modifier.isPrivate(f.getModifiers()) ? 1 : 0, 1);
        }
        Check.due("classes in the file", 1 + all.getDeclaredClasses().length <= MOST_CLASSES ? 1 : 0, 1);
        holdInside(all);
        for (Class<?> inside : all.getDeclaredClasses()) {
            int how = inside.getModifiers();
            Check.due(inside + " is static", Modifier.isStatic(how) ? 1 : 0, 1);
            Check.due(inside + " can't be seen", Modifier.isPublic(how) || Modifier.isProtected(how) ? 1 : 0, 0);
            holdInside(inside);
        }
        Check.end();
    }

    /** What every class of the file keeps to. */
    private static void holdInside(Class<?> one) {
        TreeSet<String> names = publicMethods(LetByTheBirds.class, false);
        for (Method m : one.getDeclaredMethods()) {
            boolean ofTheFace = Modifier.isPublic(m.getModifiers());
            Check.due(m + " has a name of its own", !ofTheFace && names.contains(m.getName()) ? 1 : 0, 0);
            Check.due(m + " takes seven at most", m.getParameterCount() <= MOST_PARAMETERS ? 1 : 0, 1);
        }
        int ofObjects = 0;
        for (Field f : one.getDeclaredFields()) {
            int how = f.getModifiers();
            ofObjects += Modifier.isStatic(how) ? 0 : 1;
            Check.due(f + " is no static state", Modifier.isStatic(how) && !Modifier.isFinal(how) ? 1 : 0, 0);
        }
        Check.due("fields of " + one, ofObjects <= MOST_FIELDS ? 1 : 0, 1);
    }

    private static TreeSet<String> toldByDocument() throws IOException {
        TreeSet<String> face = new TreeSet<>();
        for (String line : Files.readAllLines(DOCUMENT)) {
            Matcher m = METHOD.matcher(line);
            if (m.matches()) {
                String types = m.group(3).replaceAll("(\\w+) \\w+", "$1").replace(" ", "");
                String exceptions = m.group(4) == null ? "" : m.group(4).replace(" ", "");
                face.add(m.group(1) + " " + m.group(2) + "(" + types + ")" + exceptions);
            }
        }
        return face;
    }

    /** Their names, or all that the document tells of them. */
    private static TreeSet<String> publicMethods(Class<?> one, boolean whole) {
        TreeSet<String> face = new TreeSet<>();
        for (Method m : one.getDeclaredMethods()) {
            if (Modifier.isPublic(m.getModifiers())) {
                face.add(!whole ? m.getName() : m.getReturnType() + " " + m.getName()
                    + "(" + named(m.getParameterTypes()) + ")" + named(m.getExceptionTypes()));
            }
        }
        return face;
    }

    private static String named(Class<?>[] types) {
        StringBuilder all = new StringBuilder();
        for (Class<?> type : types) {
            all.append(all.length() == 0 ? "" : ",").append(type.getSimpleName());
        }
        return all.toString();
    }
}
