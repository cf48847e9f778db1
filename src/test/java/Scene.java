import java.lang.reflect.InvocationTargetException;
import java.lang.reflect.Method;
import java.util.ArrayList;
import java.util.Arrays;
import java.util.HashMap;
import java.util.List;
import java.util.Map;

/**
 * A run of calls, written as the document writes them, that is made anew on a new object for every answer asked.
 * So each call can be tried alone, and an object on which it was refused held against one on which it was not made.
 */
final class Scene {
    /** "An object is used for at most 512 calls": no scene may ask for more. */
    private static final int MOST_CALLS = 512;
    private static final int TEXT_SHELF = 7;
    private static final Map<String, Method> FACE = new HashMap<>();

    static {
        for (Method m : LetByTheBirds.class.getMethods()) {
            FACE.put(m.getName(), m);
        }
    }

    private final List<String> calls;
    /** How the calls are told where an answer is wrong: a text or a row in one, not put by put. */
    private final String told;
    /** All that an object tells behind these calls; null until it is asked. */
    private String toldBehind = null;

    private Scene(List<String> calls, String told) {
        this.calls = calls;
        this.told = told;
    }

    static Scene fresh() {
        return new Scene(new ArrayList<>(), "");
    }

    /** A new object on which this text has come from shelf 7, of which nothing is left there. */
    static Scene isle(String text) {
        return fresh().comesTrue(text);
    }

    /** This text comes from shelf 7, which holds nothing then. */
    Scene comesTrue(String text) {
        int statements = 0;
        for (int i = 0; i < text.length(); i++) {
            statements += text.charAt(i) == ';' ? 1 : 0;
        }
        return writes(TEXT_SHELF, text).does("isle(" + TEXT_SHELF + ")", statements).holdsNothing(TEXT_SHELF);
    }

    Scene holdsNothing(int d) {
        return with("keep(" + d + ", 0, 0, 0)");
    }

    Scene holdsOne(int d, int kind, int figure) {
        return with("keep(" + d + ", 1, " + kind + ", " + figure + ")");
    }

    Scene holdsRow(int d, int sort, int... values) {
        return holdsRow("shelf " + d + " has " + sort + Arrays.toString(values), d, sort, values);
    }

    private Scene holdsRow(String told, int d, int sort, int... values) {
        List<String> more = new ArrayList<>();
        more.add("row(" + d + ", " + sort + ", " + values.length + ")");
        for (int i = 0; i < values.length; i++) {
            if (values[i] != 0) {
                more.add("put(" + d + ", " + i + ", " + values[i] + ")");
            }
        }
        return with(told, more);
    }

    Scene writes(int d, String text) {
        int[] signs = new int[text.length()];
        for (int i = 0; i < signs.length; i++) {
            signs[i] = text.charAt(i);
        }
        return holdsRow("shelf " + d + " has \"" + text + "\"", d, 0, signs);
    }

    /** Calls whose answers are tested elsewhere. */
    Scene with(String... more) {
        return with(String.join(" ", more), Arrays.asList(more));
    }

    private Scene with(String what, List<String> more) {
        List<String> all = new ArrayList<>(calls);
        all.addAll(more);
        return new Scene(all, told + what + " ");
    }

    /** A call that may change something: its answer is held, and the scene goes on behind it. */
    Scene does(String call, long want) {
        Check.dueSame(this + call, new User(this).call(call), Long.toString(want));
        return with(call);
    }

    /** A question: its answer is held, and that nothing has changed behind it. */
    Scene asks(String call, long want) {
        return leavesAll(call, Long.toString(want));
    }

    /** A call that is refused: its answer is held, and that nothing has changed behind it. */
    Scene refused(String call, long want) {
        return leavesAll(call, Long.toString(want));
    }

    /** A call that throws: what it throws is held, and that nothing has changed behind it. */
    Scene thrown(String call, String exception) {
        return leavesAll(call, "throws." + exception);
    }

    /** This text, on shelf 7, has a FAULT. */
    Scene faults(String text, int want) {
        writes(TEXT_SHELF, text).refused("isle(" + TEXT_SHELF + ")", want);
        return this;
    }

    /** What this call answers; "throws." and a name, if it throws. */
    String answer(String call) {
        return new User(this).call(call);
    }

    /** An answer, or "throws." and a name: it is held, and that nothing has changed behind it. */
    Scene leavesAll(String call, String want) {
        if (toldBehind == null) {
            toldBehind = allTold(new User(this));
        }
        User user = new User(this);
        Check.dueSame(this + call, user.call(call), want);
        // Other days, another sea and other birds are in mind behind these.
        user.call("then(60, 0)");
        user.call("years(1, 7, 1)");
        Check.dueSame(this + call + ", asked once more", user.call(call), want);
        Check.dueSame("all behind " + this + call, allTold(user), toldBehind);
        return this;
    }

    public String toString() {
        return told;
    }

    /** The isle, shelves, THE IMAGE and what SORTS the rows are of. What is asked last changes the object. */
    private static String allTold(User user) {
        StringBuilder all = new StringBuilder();
        isleTold(user, all);
        List<Integer> rows = new ArrayList<>();
        for (int d = 0; d < 8; d++) {
            String cost = user.call("cost(" + d + ")");
            all.append(" shelf ").append(cost).append(' ').append(user.call("toss(" + d + ")"));
            if (cost.equals("-12")) {
                rows.add(d);
                rowTold(user, d, all);
            }
        }
        all.append(" image ").append(user.call("restore()")).append(' ');
        isleTold(user, all);
        for (int d : rows) {
            user.call("put(" + d + ", 0, 305419896)");
            all.append(" sort ").append(user.call("element(" + d + ", 0)"));
        }
        return all.toString();
    }

    private static void isleTold(User user, StringBuilder all) {
        int tenants = 0;
        for (int what = 0; what < 6; what++) {
            String count = user.call("count(" + what + ")");
            tenants = what == 0 ? Integer.parseInt(count) : tenants;
            all.append(count).append(' ');
        }
        for (int t = 0; t < tenants; t++) {
            for (int what = 0; what < 5; what++) {
                all.append(user.call("tenant(" + t + ", " + what + ")")).append(' ');
            }
        }
    }

    private static void rowTold(User user, int d, StringBuilder all) {
        String element = "";
        for (int i = 0; i <= 100 && !element.startsWith("throws."); i++) {
            element = user.call("element(" + d + ", " + i + ")");
            all.append(' ').append(element);
        }
    }

    /** One object, and how often it was called. */
    private static final class User {
        private final LetByTheBirds x = new LetByTheBirds();
        private int made = 0;

        User(Scene scene) {
            for (String call : scene.calls) {
                if (call(call).startsWith("-")) {
                    Check.due("refused in " + scene + "is " + call, 1, 0);
                }
            }
        }

        /** The answer; "throws." and the exception's name, if it throws. */
        String call(String call) {
            made++;
            if (made > MOST_CALLS) {
                Check.due("calls of one object", made, MOST_CALLS);
            }
            int open = call.indexOf('(');
            String inside = call.substring(open + 1, call.length() - 1);
            String[] words = inside.isEmpty() ? new String[0] : inside.split(", ");
            Object[] arguments = new Object[words.length];
            for (int i = 0; i < words.length; i++) {
                arguments[i] = Integer.valueOf(words[i]);
            }
            try {
                return FACE.get(call.substring(0, open)).invoke(x, arguments).toString();
            } catch (InvocationTargetException e) {
                return "throws." + e.getCause().getClass().getSimpleName();
            } catch (IllegalAccessException e) {
                return "throws." + e;
            }
        }
    }
}
