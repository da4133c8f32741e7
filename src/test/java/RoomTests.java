import java.lang.management.ManagementFactory;
import java.lang.reflect.Array;
import java.lang.reflect.Field;
import java.lang.reflect.Modifier;
import java.util.ArrayDeque;
import java.util.ArrayList;
import java.util.Arrays;
import java.util.IdentityHashMap;
import java.util.List;
import java.util.Map;

/** That calls make nothing and end soon, even the dearest ones. */
final class RoomTests {
    private static final com.sun.management.ThreadMXBean MEASURE =
        (com.sun.management.ThreadMXBean) ManagementFactory.getThreadMXBean();

    private RoomTests() {
    }

    private static long bytes() {
        return MEASURE.getThreadAllocatedBytes(Thread.currentThread().getId());
    }

    private static String wide() {
        StringBuilder b = new StringBuilder("marsh 6 by 5 skin 30 soft 9 deep 30; mends 3;");
        for (int i = 0; i < 4; i++) {
            b.append("walker ").append("abcd".charAt(i)).append(" at 2 2 to 5 4 weight 9 reach 3 long 30 load 9;");
        }
        return b.toString();
    }

    public static void main(String[] args) {
        String mornings = "loop 99; loop 99; any a; any b; stand 20; any c; end; end;";
        StiltMarsh x = Check.marsh(wide());
        Check.mornings(x, mornings, 6);
        long[] size = sizeOf(x);
        System.out.println("one object: " + size[0] + " objects and arrays, " + size[1] + " fields and elements");
        Check.due("an object has few parts", size[0] <= 250, true);
        Check.due("an object has few elements", size[1] <= 7000, true);
        dearest(x);
        long before = bytes();
        for (int i = 0; i < 20; i++) {
            dearest(x);
        }
        Check.due("calls make nothing", bytes() - before < 2000, true);
        Check.close("RoomTests");
    }

    /** How many objects and arrays hang on an object, and how many fields and elements these have. */
    private static long[] sizeOf(Object root) {
        Map<Object, Boolean> seen = new IdentityHashMap<>();
        ArrayDeque<Object> open = new ArrayDeque<>();
        open.add(root);
        seen.put(root, true);
        long elements = 0;
        while (!open.isEmpty()) {
            Object here = open.poll();
            List<Object> parts = new ArrayList<>();
            if (here.getClass().isArray()) {
                elements += Array.getLength(here);
                parts.addAll(here instanceof Object[] ? Arrays.asList((Object[]) here) : List.of());
            } else {
                for (Field f : here.getClass().getDeclaredFields()) {
                    if (!Modifier.isStatic(f.getModifiers())) {
                        elements++;
                        parts.add(valueOf(f, here));
                    }
                }
            }
            for (Object part : parts) {
                if (part != null && !(part instanceof Number) && !(part instanceof Boolean) && seen.put(part, true) == null) {
                    open.add(part);
                }
            }
        }
        return new long[] {seen.size(), elements};
    }

    private static Object valueOf(Field f, Object of) {
        try {
            f.setAccessible(true);
            return f.get(of);
        } catch (IllegalAccessException e) {
            throw new IllegalStateException(e);
        }
    }

    private static void dearest(StiltMarsh x) {
        x.mark();
        x.mean(0, 20);
        x.live(7);
        x.undo();
        x.race(0, 1, 3);
        x.raced(1, 2, 3, 0);
        x.soonest(0, 3);
        x.sparing(0, 3);
        x.keys(0);
        x.mostPlanks();
        x.weakest(0);
        x.tray(0, 3, 60);
        x.tracks(0);
        x.sure(0);
        x.luckiest();
        x.fallsIn(0);
        x.skinIn(0, 0, 99);
    }
}
