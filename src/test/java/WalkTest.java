import java.lang.reflect.Method;
import java.util.ArrayList;
import java.util.Comparator;
import java.util.HashMap;
import java.util.List;
import java.util.Map;
import java.util.Random;

/** Long walks of drawn calls (always the same ones), each answer held against PlainLodger's. */
public final class WalkTest {
    private static final int CALLS = 512;
    private static final String[] DOING = {"cell", "height", "beast", "lodge", "lodge", "out", "lead", "hour", "hour",
        "years", "played", "undo", "by"};
    private static final Map<String, Method> OURS = methods(MoonLodger.class);
    private static final Map<String, Method> PLAIN = methods(PlainLodger.class);

    private final Random draw;
    private final MoonLodger ours = new MoonLodger();
    private final PlainLodger plain = new PlainLodger();
    private final List<String> told = new ArrayList<>();
    private int calls = 0;

    private WalkTest(long seed) {
        draw = new Random(seed);
    }

    public static void main(String[] args) throws Exception {
        int walks = args.length > 0 ? Integer.parseInt(args[0]) : 250;
        long from = args.length > 1 ? Long.parseLong(args[1]) : 1;
        long sum = 0;
        for (long seed = from; seed < from + walks; seed++) {
            WalkTest walk = new WalkTest(seed);
            if (!walk.goes()) {
                System.out.println("walk " + seed + " is not as due:");
                walk.told.subList(Math.max(0, walk.told.size() - 60), walk.told.size()).forEach(System.out::println);
                System.exit(1);
            }
            sum += walk.calls;
        }
        System.out.println("WalkTest: " + sum + " answers as due in " + walks + " walks");
    }

    private static Map<String, Method> methods(Class<?> type) {
        Map<String, Method> found = new HashMap<>();
        for (Method m : type.getMethods()) {
            if (m.getDeclaringClass() == type) {
                found.put(m.getName(), m);
            }
        }
        return found;
    }

    /** In every other walk many calls are left out, so that the others come often enough to meet one another. */
    private List<String> someOf(List<String> names, boolean all) {
        List<String> some = new ArrayList<>(names);
        some.removeIf(name -> !all && draw.nextInt(3) > 0);
        return some.isEmpty() ? names : some;
    }

    private boolean goes() throws Exception {
        List<String> names = new ArrayList<>(OURS.keySet());
        names.sort(Comparator.naturalOrder());
        names.remove("feed");
        boolean all = draw.nextBoolean();
        names = someOf(names, all);
        List<String> doing = someOf(List.of(DOING), all);
        int nearEnd = draw.nextInt(8) == 0 ? 170 : 0;
        for (int i = 0; i < nearEnd; i++) {
            if (!call("hour", 60)) {
                return false;
            }
        }
        while (calls < CALLS - 30) {
            int dice = draw.nextInt(100);
            boolean same;
            if (dice < 4) {
                same = tellText();
            } else if (dice < 45) {
                same = callDrawn(doing.get(draw.nextInt(doing.size())));
            } else {
                same = callDrawn(names.get(draw.nextInt(names.size())));
            }
            if (!same) {
                return false;
            }
        }
        return lookAround();
    }

    private boolean tellText() throws Exception {
        String text = new TextDraw(draw).text();
        if (draw.nextInt(3) > 0 && !call("end", 0)) {
            return false;
        }
        for (int from = 0; from < text.length() && calls < CALLS - 40; from += 20) {
            Object[] fours = new Object[5];
            for (int k = 0; k < 5; k++) {
                int four = 0;
                for (int i = from + 4 * k; i < from + 4 * k + 4; i++) {
                    four = four << 8 | (i < text.length() ? text.charAt(i) & 255 : 0);
                }
                fours[k] = four;
            }
            if (!call("feed", fours)) {
                return false;
            }
        }
        return call("end", text.length()) && call("text") && call("fault", 0) && call("fault", 1)
                && (draw.nextInt(2) == 0 || call("by", draw.nextInt(5) - 1));
    }

    private boolean lookAround() throws Exception {
        for (int what = 0; what < 7; what++) {
            if (!call("is", what) || !call("of", what, 1) || !call("about", what)) {
                return false;
            }
        }
        return call("fits", 1) && call("lonely") && call("ledger", -1) && call("ask") && call("whose")
                && call("lit", 3) && call("brightest");
    }

    private boolean callDrawn(String name) throws Exception {
        Class<?>[] types = OURS.get(name).getParameterTypes();
        Object[] args = new Object[types.length];
        for (int i = 0; i < args.length; i++) {
            args[i] = types[i] == boolean.class ? (Object) draw.nextBoolean() : (Object) drawn(name, i);
        }
        return call(name, args);
    }

    private int drawn(String name, int i) {
        int dice = draw.nextInt(40);
        if (dice == 0) {
            return new int[] {Integer.MIN_VALUE, Integer.MAX_VALUE, -2, 30, 31, 32, 10000, 61}[draw.nextInt(8)];
        }
        if (dice == 1) {
            return -1;
        }
        switch (name) {
            case "cell":
                return i == 0 ? draw.nextInt(30) : draw.nextInt(5) > 2 ? 1 : draw.nextInt(4);
            case "height":
                return i == 0 ? draw.nextInt(30) : draw.nextInt(10);
            case "beast":
            case "lead":
                return i == 0 && name.equals("lead") ? draw.nextInt(5) : i == 0 ? draw.nextInt(30) : draw.nextInt(30) % 10
                        + (name.equals("lead") ? draw.nextInt(3) * 10 : 0);
            case "hour":
                return draw.nextInt(3) == 0 ? 1 + draw.nextInt(60) : 1 + draw.nextInt(24);
            case "years":
                return i == 0 ? draw.nextInt(10000) : 1 + draw.nextInt(40);
            case "foretold":
                return i == 0 ? 1 + draw.nextInt(60) : i == 1 ? draw.nextInt(4) : draw.nextInt(5);
            case "way":
                return i < 2 ? draw.nextInt(30) : draw.nextInt(10);
            case "gain":
                return i == 0 ? draw.nextInt(12) : draw.nextInt(3) == 0 ? draw.nextInt(201) - 100 : draw.nextInt(9) - 3;
            case "lease":
                return i == 0 ? draw.nextInt(13) : i == 1 ? draw.nextInt(4) : draw.nextInt(13) - 1;
            case "work":
            case "dark":
            case "seen":
            case "read":
                return i == 0 ? draw.nextInt(31) - draw.nextInt(2) : draw.nextInt(3) == 0 ? draw.nextInt(16) : draw.nextInt(5);
            case "book":
                return i == 0 ? draw.nextInt(31) - 1 : draw.nextInt(4);
            case "ofCell":
                return i == 0 ? draw.nextInt(30) : draw.nextInt(6);
            case "steps":
            case "room":
            case "lodge":
            case "wet":
                return draw.nextInt(30);
            case "till":
            case "lit":
            case "seats":
                return draw.nextInt(17);
            default:
                return draw.nextInt(10) - 1;
        }
    }

    private boolean call(String name, Object... args) throws Exception {
        Object got = OURS.get(name).invoke(ours, args);
        Object want = PLAIN.get(name).invoke(plain, args);
        calls++;
        told.add(name + java.util.Arrays.toString(args) + " -> " + got + (got.equals(want) ? "" : ", due is " + want));
        return got.equals(want);
    }
}
