import java.lang.reflect.Method;
import java.util.HashMap;
import java.util.Map;

/**
 * A run of calls on one new object, told as "lodge(3)=1 is(3)=3"; a boolean counts 1 or 0. A run stays within the
 * calls that the document grants an object.
 */
final class Run {
    private static final int MOST_CALLS = 512;
    private static final Map<String, Method> METHODS = new HashMap<>();

    static {
        for (Method m : MoonLodger.class.getDeclaredMethods()) {
            METHODS.put(m.getName(), m);
        }
    }

    private final Check check;
    private final String title;
    final MoonLodger farm = new MoonLodger();
    private int called = 0;

    Run(Check check, String title) {
        this.check = check;
        this.title = title;
    }

    Run calls(String rows) {
        for (String row : rows.trim().split("\\s+")) {
            int open = row.indexOf('(');
            int close = row.indexOf(')');
            long want = Long.parseLong(row.substring(row.indexOf('=') + 1));
            check.due(title + ": " + row, answer(row.substring(0, open), row.substring(open + 1, close)), want);
        }
        return this;
    }

    Run again(int times, String rows) {
        for (int i = 0; i < times; i++) {
            calls(rows);
        }
        return this;
    }

    Run text(String text, int want) {
        count(callsToTell(text));
        check.due(title + ": text '" + text + "'", Check.tell(farm, text), want);
        return this;
    }

    /** A law told in a text, which then rules. */
    Run law(String text) {
        count(callsToTell(text) + 1);
        int number = Check.tell(farm, text);
        check.due(title + ": law '" + text + "'", number >= 0 && farm.by(number), true);
        return this;
    }

    /** A text that is put on the tape and not read yet. */
    Run tape(String text) {
        count(callsToTell(text) - 1);
        Check.write(farm, text);
        return this;
    }

    /** Hours that pass, however many kicks there are in them. */
    Run pass(int hours) {
        for (int left = hours; left > 0; left -= 60) {
            count(1);
            check.due(title + ": hours can pass", farm.hour(Math.min(60, left)) >= 0, true);
        }
        return this;
    }

    /** Calls that are the same but for a cell: ? stands for it. */
    Run forCells(int first, int last, String rows) {
        for (int c = first; c <= last; c++) {
            calls(rows.replace("?", Integer.toString(c)));
        }
        return this;
    }

    /** All that calls tell of what is, but what only the laws say. */
    String state() {
        StringBuilder told = new StringBuilder();
        for (int i = 0; i < 9; i++) {
            told.append(answer("about", "" + i)).append(i < 7 ? " " + answer("is", "" + i) : "").append(' ');
        }
        for (int c = 0; c < 30; c++) {
            told.append(answer("ofCell", c + ",0")).append(answer("ofCell", c + ",1")).append(' ');
        }
        for (int b = 0; b < answer("about", "0"); b++) {
            told.append(answer("of", b + ",0")).append(' ').append(answer("of", b + ",1")).append(' ');
            told.append(answer("of", b + ",2")).append(' ').append(answer("of", b + ",3")).append(' ');
        }
        for (int i = 0; i < answer("book", "-1,0"); i++) {
            told.append(answer("book", i + ",0")).append(answer("book", i + ",1")).append(answer("book", i + ",2"));
        }
        told.append(answer("best", "false")).append(' ').append(answer("fits", "0")).append(' ').append(answer("whose", ""));
        told.append(' ').append(answer("lease", "12,0,-1")).append(' ').append(answer("fault", "0"));
        return told.append(' ').append(answer("fault", "1")).toString();
    }

    Run stateIs(String state) {
        String now = state();
        check.due(title + ": all is as it was: " + state + " / " + now, now.equals(state), true);
        return this;
    }

    private static int callsToTell(String text) {
        return (text.length() + 19) / 20 + 3;
    }

    private void count(int calls) {
        called += calls;
        if (called > MOST_CALLS) {
            check.due(title + ": calls of one object", called, MOST_CALLS);
        }
    }

    private long answer(String name, String args) {
        count(1);
        Method method = METHODS.get(name);
        String[] words = args.isEmpty() ? new String[0] : args.split(",");
        Object[] values = new Object[words.length];
        for (int i = 0; i < words.length; i++) {
            boolean truth = method.getParameterTypes()[i] == boolean.class;
            values[i] = truth ? (Object) Boolean.valueOf(words[i]) : (Object) Integer.valueOf(words[i]);
        }
        try {
            Object got = method.invoke(farm, values);
            return got instanceof Boolean ? ((Boolean) got ? 1 : 0) : ((Integer) got).longValue();
        } catch (ReflectiveOperationException e) {
            throw new IllegalStateException(title + ": " + name + "(" + args + ")", e);
        }
    }
}
