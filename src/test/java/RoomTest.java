import com.sun.management.ThreadMXBean;
import java.lang.management.ManagementFactory;
import java.lang.reflect.Array;
import java.lang.reflect.Field;
import java.lang.reflect.Modifier;
import java.util.IdentityHashMap;
import java.util.Map;

/** All calls of a run live in one room: what a run makes stays far below 7.3 million fields and elements. */
public final class RoomTest {
    private static final String TEXT = "earn l+t*100 lapse 10 price l*2 tier q/500";
    private static final Due due = new Due("RoomTest");

    public static void main(String[] args) throws IllegalAccessException {
        Map<Object, Boolean> seen = new IdentityHashMap<>();
        long held = held(new MilesHall(), seen);
        System.out.println("RoomTest: a new object holds " + seen.size() + " objects and arrays, " + held + " fields and elements");
        due.is("few objects and arrays", seen.size() < 200 ? 1 : 0, 1);
        due.is("few fields and elements", held < 10000 ? 1 : 0, 1);
        ThreadMXBean bean = (ThreadMXBean) ManagementFactory.getThreadMXBean();
        long id = Thread.currentThread().getId();
        run();
        long before = bean.getThreadAllocatedBytes(id);
        MilesHall x = run();
        long made = bean.getThreadAllocatedBytes(id) - before;
        due.is("the run went through", x.count(1), 40);
        System.out.println("RoomTest: " + made + " bytes");
        due.is("less than 400,000 bytes, the test's own texts too", made < 400000 ? 1 : 0, 1);
        due.end();
    }

    /** Fields and elements of an object and of all that it holds. */
    private static long held(Object one, Map<Object, Boolean> seen) throws IllegalAccessException {
        if (one == null || one instanceof String || seen.put(one, true) != null) {
            return 0;
        }
        long held = 0;
        if (one.getClass().isArray()) {
            held += Array.getLength(one);
            for (int i = 0; !one.getClass().getComponentType().isPrimitive() && i < Array.getLength(one); i++) {
                held += held(Array.get(one, i), seen);
            }
            return held;
        }
        for (Field f : one.getClass().getDeclaredFields()) {
            if (!Modifier.isStatic(f.getModifiers())) {
                held++;
                f.setAccessible(true);
                held += f.getType().isPrimitive() ? 0 : held(f.get(one), seen);
            }
        }
        return held;
    }

    /** Far more than 512 calls, of the dearest ones. */
    private static MilesHall run() {
        MilesHall x = new MilesHall();
        for (int i = 0; i < 8; i++) {
            x.member(i % 4, i);
            x.offer(5 + i, 7 + i, 9);
        }
        for (int i = 0; i < 40; i++) {
            x.fly(i % 8, 0, 500, 1, 0);
        }
        x.keep();
        for (int i = 0; i < 300; i++) {
            Due.terms(x, TEXT, 0);
            x.flight(9, 10, 1, 3);
            x.ask(0, 0, 0);
            x.settle(0);
            x.stands(0, 100, 0, i % 5);
            x.owes(1, 1, 1);
            x.way(500 + i);
            x.taken(400, 3);
            x.check(300);
            x.ring(0);
            x.sheet(0, 16);
            x.copy(0, 0, 0, 1, 15);
            x.lay(0);
            if (i % 10 == 0) {
                x.again();
                x.keep();
            }
            x.again();
        }
        return x;
    }
}
