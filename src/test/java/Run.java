import java.lang.reflect.Method;
import java.util.HashMap;
import java.util.Map;

/** A run of calls on one new object, told as "lodge(3)=1 is(3)=3"; a boolean counts 1 or 0. */
final class Run {
    private static final Map<String, Method> METHODS = new HashMap<>();

    static {
        for (Method m : MoonLodger.class.getDeclaredMethods()) {
            METHODS.put(m.getName(), m);
        }
    }

    private final Check check;
    private final String title;
    final MoonLodger farm = new MoonLodger();

    Run(Check check, String title) {
        this.check = check;
        this.title = title;
    }

    Run calls(String rows) {
        for (String row : rows.trim().split("\\s+")) {
            int open = row.indexOf('(');
            int close = row.indexOf(')');
            long want = Long.parseLong(row.substring(row.indexOf('=') + 1));
            check.due(title + ": " + row, answer(row.substring(0, open), row.substring(open + 1, close)), want);
        }
        return this;
    }

    Run again(int times, String rows) {
        for (int i = 0; i < times; i++) {
            calls(rows);
        }
        return this;
    }

    Run text(String text, int want) {
        check.due(title + ": text '" + text + "'", Check.tell(farm, text), want);
        return this;
    }

    /** A law told in a text, which then rules. */
    Run law(String text) {
        int number = Check.tell(farm, text);
        check.due(title + ": law '" + text + "'", number >= 0 && farm.by(number), true);
        return this;
    }

    private long answer(String name, String args) {
        Method method = METHODS.get(name);
        String[] words = args.isEmpty() ? new String[0] : args.split(",");
        Object[] values = new Object[words.length];
        for (int i = 0; i < words.length; i++) {
            boolean truth = method.getParameterTypes()[i] == boolean.class;
            values[i] = truth ? (Object) Boolean.valueOf(words[i]) : (Object) Integer.valueOf(words[i]);
        }
        try {
            Object got = method.invoke(farm, values);
            return got instanceof Boolean ? ((Boolean) got ? 1 : 0) : ((Integer) got).longValue();
        } catch (ReflectiveOperationException e) {
            throw new IllegalStateException(title + ": " + name + "(" + args + ")", e);
        }
    }
}
