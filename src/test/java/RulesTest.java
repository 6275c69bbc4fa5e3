import java.lang.management.ManagementFactory;
import java.lang.reflect.Constructor;
import java.lang.reflect.Field;
import java.lang.reflect.Method;
import java.lang.reflect.Modifier;
import java.util.Arrays;
import java.util.Set;
import java.util.TreeSet;

/** The public face, wild arguments, and the room that calls take. */
public final class RulesTest extends Due {
    private static final String FACE = "state(int)int person(int)int set(int,int,int)boolean act(int,int,int)boolean "
        + "minutes(int)int feed(int,int,int,int,int)int end(int)boolean text(int)int fault(int)int of(int,int)int "
        + "book(int,int)int goes(int,int)int peace()int back(int)int breath(int)int held(int)int least(int,int)int "
        + "heads(int,int)int said(int,int)int digit(int,int)int call(int,int,int)int calls(int)int hics(int,int,int)int "
        + "way(int,int,int)int gossip(int,int,int)int term(int,int)int terms(int,int)int product(int)int "
        + "tongues(int,int,int)int squares(int,int)int kin(int)int tree(int,int,int)int step(int)int "
        + "stair(int,int,int)int heap(int)int game()int undo()boolean image(boolean)boolean look(int)int";

    public static void main(String[] args) throws Exception {
        face();
        wildArguments();
        room();
        end("the rules");
    }

    private static void face() {
        Set<String> want = new TreeSet<>(Arrays.asList(FACE.split(" ")));
        Set<String> got = new TreeSet<>();
        Set<String> names = new TreeSet<>();
        for (Method m : HiccupLane.class.getDeclaredMethods()) {
            if (Modifier.isPublic(m.getModifiers())) {
                StringBuilder b = new StringBuilder(m.getName()).append("(");
                for (int i = 0; i < m.getParameterCount(); i++) {
                    b.append(i == 0 ? "" : ",").append(m.getParameterTypes()[i].getName());
                }
                got.add(b.append(")").append(m.getReturnType().getName()).toString());
                names.add(m.getName());
            }
        }
        holds("the face is the document's: " + got, got.equals(want));
        for (Method m : HiccupLane.class.getDeclaredMethods()) {
            int is = m.getModifiers();
            holds(m + " is public or private", Modifier.isPublic(is) || Modifier.isPrivate(is));
            holds(m + " bears no public name", Modifier.isPublic(is) || !names.contains(m.getName()));
        }
        for (Field f : HiccupLane.class.getDeclaredFields()) {
            holds(f + " is private", Modifier.isPrivate(f.getModifiers()) || f.getName().equals("NONE"));
            holds(f + " static is final", !Modifier.isStatic(f.getModifiers()) || Modifier.isFinal(f.getModifiers()));
        }
        Constructor<?>[] constructors = HiccupLane.class.getDeclaredConstructors();
        holds("one constructor", constructors.length == 1 && Modifier.isPublic(constructors[0].getModifiers()));
        holds("final", Modifier.isFinal(HiccupLane.class.getModifiers()));
        Class<?>[] inside = HiccupLane.class.getDeclaredClasses();
        holds("twelve classes at most", inside.length <= 11);
        for (Class<?> c : inside) {
            holds(c + " is static", Modifier.isStatic(c.getModifiers()));
            int fields = 0;
            for (Field f : c.getDeclaredFields()) {
                fields += Modifier.isStatic(f.getModifiers()) ? 0 : 1;
                holds(f + " static is final", !Modifier.isStatic(f.getModifiers()) || Modifier.isFinal(f.getModifiers()));
            }
            holds(c + " has twenty fields at most", fields <= 20);
            for (Method m : c.getDeclaredMethods()) {
                holds(m + " takes seven at most", m.getParameterCount() <= 7);
                holds(m + " bears no public name", !names.contains(m.getName()));
            }
        }
    }

    private static final int[] WILD = {0, 1, -1, 2, 3, 5, 9, 10, 13, 14, 16, 20, 33, 60, 99, 100, -2, -10, -100, 999, 9999, 10000,
        100000, Integer.MAX_VALUE, Integer.MIN_VALUE, Integer.MAX_VALUE - 1, Integer.MIN_VALUE + 1};

    /** With those that fill a lane less than 512 calls. */
    private static final int MIXES_EACH = 300;

    /** Every method with every mix of wild arguments, in an empty lane and in a full one: what the machine throws ends the test. */
    private static void wildArguments() throws Exception {
        for (Method m : HiccupLane.class.getDeclaredMethods()) {
            if (!Modifier.isPublic(m.getModifiers()) || m.getParameterCount() > 3) {
                continue;
            }
            for (int full = 0; full < 2; full++) {
                HiccupLane x = new HiccupLane();
                int mixes = 1;
                for (int i = 0; i < m.getParameterCount(); i++) {
                    mixes *= WILD.length;
                }
                for (int mix = 0; mix < mixes; mix++) {
                    if (mix % MIXES_EACH == 0) {
                        x = full == 0 ? new HiccupLane() : fullLane();
                    }
                    Object[] arguments = new Object[m.getParameterCount()];
                    int rest = mix;
                    for (int i = 0; i < arguments.length; i++) {
                        int v = WILD[rest % WILD.length];
                        arguments[i] = m.getParameterTypes()[i] == boolean.class ? (Object) (v > 0) : (Object) v;
                        rest /= WILD.length;
                    }
                    try {
                        m.invoke(x, arguments);
                    } catch (java.lang.reflect.InvocationTargetException e) {
                        holds(m.getName() + Arrays.toString(arguments) + " ends: " + e.getCause(), false);
                    }
                }
            }
        }
    }

    private static HiccupLane fullLane() {
        HiccupLane x = new HiccupLane();
        for (int i = 0; i < 14; i++) {
            x.person(i % 10);
        }
        holds("the full lane has text 0", tell(x, 0, "stops 1 when not (minute/7*7=minute and strong<5 or near>3);hics 3*named-tried;passes strong+found;") > 0);
        holds("the full lane has text 1", tell(x, 1, "at 0 person 13 names 0;".repeat(16)) > 0);
        holds("the full lane has text 2", tell(x, 2, "at 0 glass 0 13;".repeat(16)) > 0);
        holds("the full lane has text 3", tell(x, 3, "person 0 says 13 12;".repeat(16)) > 0);
        for (int i = 0; i < 14; i++) {
            x.act(0, (i + 1) % 14, i);
        }
        for (int i = 0; i < 16; i++) {
            x.breath(i * 7 % 11 - 5);
            x.call(i, i + 5, i + 1);
            x.way(i % 6, (i + 1 + i % 4) % 6, i + 1);
            x.term(i % 2, i % 9);
            x.kin(i % 8);
            x.step(i + 3);
            x.heap(i % 16);
        }
        x.image(true);
        x.minutes(60);
        return x;
    }

    private static final long MOST_MADE = 1000000;

    /** A room holds some 7.3 million fields and elements; of those all calls of an object may take a small part. */
    private static void room() {
        com.sun.management.ThreadMXBean beans = (com.sun.management.ThreadMXBean) ManagementFactory.getThreadMXBean();
        long thread = Thread.currentThread().getId();
        for (int round = 0; round < 3; round++) {
            HiccupLane x = fullLane();
            long before = beans.getThreadAllocatedBytes(thread);
            for (int i = 0; i < 20; i++) {
                x.minutes(60);
                x.goes(60, 0);
                x.peace();
                x.image(i % 2 == 0);
                x.undo();
                x.feed(1751737203, 540095027, 875903776, 538976288, 538976288);
                x.text(i % 5);
                x.tree(0, 1, 1);
                x.stair(40, 6, 0);
                x.calls(0);
                x.gossip(0, 5, 0);
                x.heads(99999, 1);
                x.game();
                x.of(3, 25);
            }
            long made = beans.getThreadAllocatedBytes(thread) - before;
            holds("calls make little (bytes made: " + made + ")", round < 2 || made < MOST_MADE);
        }
        long before = beans.getThreadAllocatedBytes(thread);
        HiccupLane x = new HiccupLane();
        long made = beans.getThreadAllocatedBytes(thread) - before;
        holds("a new object is small (bytes: " + made + ")", made < MOST_MADE && x.look(0) == 0);
    }
}
