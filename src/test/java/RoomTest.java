import java.lang.management.ManagementFactory;
import java.lang.reflect.Array;
import java.lang.reflect.Field;
import java.lang.reflect.Modifier;
import java.util.ArrayDeque;
import java.util.Collections;
import java.util.IdentityHashMap;
import java.util.Set;

/** How much room an object takes, and that its calls take none: all calls of a run live in one room. */
public final class RoomTest {
    static long objects = 0, elements = 0;

    static void measure(Object root) throws IllegalAccessException {
        Set<Object> seen = Collections.newSetFromMap(new IdentityHashMap<>());
        ArrayDeque<Object> open = new ArrayDeque<>();
        open.add(root);
        seen.add(root);
        while (!open.isEmpty()) {
            Object o = open.remove();
            objects++;
            if (o.getClass().isArray()) {
                elements += Array.getLength(o);
                boolean plain = o.getClass().getComponentType().isPrimitive();
                for (int i = 0; !plain && i < Array.getLength(o); i++) look(Array.get(o, i), seen, open);
                continue;
            }
            for (Field f : o.getClass().getDeclaredFields()) {
                if (Modifier.isStatic(f.getModifiers())) continue;
                elements++;
                f.setAccessible(true);
                if (!f.getType().isPrimitive()) look(f.get(o), seen, open);
            }
        }
    }

    static void look(Object o, Set<Object> seen, ArrayDeque<Object> open) {
        if (o != null && seen.add(o)) open.add(o);
    }

    static void say(NineWheel x, String text) {
        for (int i = 0; i < text.length(); i++) x.feed(1, text.charAt(i));
    }

    static int allCalls(NineWheel x) {
        say(x, "ship 3 4;rocks 20,45;drift 2 3;lag 2;sort 3 likes 63 5 fears 2;sort 2 likes 7 9;sort 1;sort 9;");
        int sum = x.sea() + x.fault() + x.told(0) + x.worth(1, 3) + x.sort(0, 2) + x.turns(1, 1, 1, 1, 1);
        x.clear();
        for (int s = 0; s < 4; s++) sum += x.way(s, s, s == 2 ? 4 : 0) + x.presses(s, 9, 3);
        for (int r = 0; r < x.count(0); r++) {
            sum += x.counted(r, 1, 1, 1) + x.run(r, 1) + x.at(r, 9, 0) + x.comes(r, 63) + x.log(0) + x.judge(r);
            sum += x.value(r, 15, 24) + x.gain(r, 15, 24) + x.pact(r, 12) + x.sides(r, 4, 1) + x.voyage(r, 50, 99);
        }
        return sum + x.best(15, 1, 1, 24) + x.course(15, 24, 20) + x.bestRule(15, 24, 0) + x.seed(1) + x.keep(0) + x.goBack(0);
    }

    public static void main(String[] args) throws Exception {
        NineWheel x = new NineWheel();
        measure(x);
        System.out.println("a new object: " + objects + " objects and arrays, " + elements + " fields and elements");
        boolean small = 512 * objects < 600000 && 512 * elements < 7300000;
        if (!small) System.out.println("512 of these have no room");
        for (String rule : new String[] {"most", "middle bar 1", "mean unless left 2", "turns need 2"}) {
            say(x, rule);
            x.rule();
        }
        var thread = (com.sun.management.ThreadMXBean) ManagementFactory.getThreadMXBean();
        int sum = allCalls(x);
        long before = thread.getCurrentThreadAllocatedBytes();
        long idle = thread.getCurrentThreadAllocatedBytes() - before;
        before = thread.getCurrentThreadAllocatedBytes();
        sum += allCalls(x);
        long taken = thread.getCurrentThreadAllocatedBytes() - before - idle;
        System.out.println("all calls took " + taken + " bytes (" + sum + ")");
        if (!small || taken > 1000) System.exit(1);
    }
}
