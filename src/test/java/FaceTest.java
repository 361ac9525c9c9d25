import java.lang.reflect.Constructor;
import java.lang.reflect.Field;
import java.lang.reflect.Method;
import java.lang.reflect.Modifier;
import java.util.Arrays;
import java.util.Set;
import java.util.TreeSet;

/** The public face: just the constructor, the constant and the methods that the document lists. */
public final class FaceTest {
    private static final String[] FACE = {
        "int status()", "long top()", "long bottom()", "boolean tray(int,int,int)", "boolean write(int,int,long)", "long read(int,int)",
        "boolean pour(int,int,int,int,int)", "int feed(int,int,int,int,int)", "int viaduct(int)", "int decades(int)", "int fault(int)",
        "int told(int)", "int arch(int,int)", "int person(int,int)", "int plant(int,int)", "int run(int)", "int rope(int,int)",
        "int jump(int)", "int home(int)", "int day(int)", "boolean teach(int,int,int)", "int come(int)", "int build(int,int)",
        "int sow(int,int)", "boolean rule(int,int)", "int strain(int,int)", "int strainOf(int,int,int)", "int reach(int)",
        "int reachIn(int,int)", "int stops(int)", "int stopsBoth(int,int)", "int pays(int)", "int span(int)", "int spanFrom(int)",
        "int weakest()", "int mossIn(int,int)", "int most()", "int cheapest(int)", "int mate(int,int)", "int mends(int)",
        "int mendsAt(int,int)", "int fits(int,int,int)", "int fitsAt(int,int,int,int)", "int ask(int,int,int)", "int game(int,int,int)",
        "int moveOf(int,int,int)", "int garden(int)", "int gardenSet(int)", "boolean chance(int)", "boolean hope(int,int)",
        "int copyAt(int)", "int live(int)", "int lived(int)", "boolean mean(int,int)", "int mark()", "int undo()",
    };

    public static void main(String[] args) {
        Check c = new Check("FaceTest");
        Set<String> got = new TreeSet<>();
        for (Method m : LeapArches.class.getDeclaredMethods()) {
            if (!Modifier.isPrivate(m.getModifiers()) && !m.isSynthetic()) {
                StringBuilder types = new StringBuilder();
                for (Class<?> type : m.getParameterTypes()) {
                    types.append(types.length() == 0 ? "" : ",").append(type.getSimpleName());
                }
                got.add(m.getReturnType().getSimpleName() + " " + m.getName() + "(" + types + ")");
                c.due(m.getName() + " is public", Modifier.isPublic(m.getModifiers()), true);
            }
        }
        Set<String> want = new TreeSet<>(Arrays.asList(FACE));
        c.due("the methods are those of the document: " + got, got.equals(want), true);
        for (Field f : LeapArches.class.getDeclaredFields()) {
            c.due(f.getName() + " is private, but for NONE", Modifier.isPrivate(f.getModifiers()), !f.getName().equals("NONE"));
        }
        for (Constructor<?> k : LeapArches.class.getDeclaredConstructors()) {
            c.due("the constructor takes nothing", k.getParameterCount(), 0);
        }
        c.due("the class is final", Modifier.isFinal(LeapArches.class.getModifiers()), true);
        c.end();
    }
}
