import java.lang.reflect.Constructor;
import java.lang.reflect.Field;
import java.lang.reflect.Member;
import java.lang.reflect.Method;
import java.lang.reflect.Modifier;
import java.util.Set;
import java.util.TreeSet;

/** The public face is the document's, and nothing else of the class can be seen. */
public final class FaceTest {
    private static final String[] FACE = {
        "boolean cell(int,int)", "boolean height(int,int)", "int beast(int,int)", "int feed(int,int,int,int,int)",
        "int end(int)", "int text()", "int fault(int)", "boolean by(int)", "boolean lodge(int)", "boolean out()",
        "boolean lead(int,int)", "int hour(int)", "int played(int)", "int years(int,int)", "int undo()",
        "int of(int,int)", "int ofCell(int,int)", "int is(int)", "int book(int,int)", "int foretold(int,int,int)",
        "int steps(int,int)", "int way(int,int,int)", "int rooms(int)", "int room(int)", "int work(int,int)",
        "int dark(int,int)", "int best(boolean)", "int lit(int)", "int seen(int,int)", "int fits(int)", "int ask()",
        "int seats(int,boolean)", "int flood(int)", "int wet(int)", "boolean gain(int,int)", "int lease(int,int,int)",
        "int read(int,int)", "int whose()", "int till(int)", "int brightest()", "int wildest()", "int lonely()",
        "int ledger(int)", "int image()", "int back()", "int about(int)"};

    public static void main(String[] args) {
        Check check = new Check();
        check.due("NONE", MoonLodger.NONE, -1);
        check.due("class is public final", Modifier.isFinal(MoonLodger.class.getModifiers())
                && Modifier.isPublic(MoonLodger.class.getModifiers()), true);
        Set<String> seen = new TreeSet<>();
        for (Method m : MoonLodger.class.getDeclaredMethods()) {
            if (!isPrivate(m)) {
                seen.add(signature(m));
            }
        }
        for (String face : FACE) {
            check.due("has " + face, seen.remove(face), true);
        }
        check.due("other methods that can be seen " + seen, seen.size(), 0);
        for (Field f : MoonLodger.class.getDeclaredFields()) {
            check.due("field " + f.getName() + " is private or NONE", isPrivate(f) || f.getName().equals("NONE"), true);
        }
        for (Constructor<?> c : MoonLodger.class.getDeclaredConstructors()) {
            check.due("constructor", Modifier.isPublic(c.getModifiers()) && c.getParameterCount() == 0, true);
        }
        check.end("FaceTest");
    }

    private static boolean isPrivate(Member member) {
        return Modifier.isPrivate(member.getModifiers());
    }

    private static String signature(Method m) {
        StringBuilder text = new StringBuilder(m.getReturnType().getName()).append(' ').append(m.getName()).append('(');
        for (Class<?> type : m.getParameterTypes()) {
            text.append(text.charAt(text.length() - 1) == '(' ? "" : ",").append(type.getName());
        }
        return text.append(')').toString();
    }
}
