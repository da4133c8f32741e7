import java.lang.reflect.InvocationTargetException;
import java.lang.reflect.Method;
import java.lang.reflect.Modifier;
import java.util.ArrayList;
import java.util.Comparator;
import java.util.HashMap;
import java.util.List;
import java.util.Map;
import java.util.Random;

/**
 * Every call with any arguments: none throws, each has a STATUS that its promise has in brackets, and with another
 * one than 0 it gives NONE or false and changes nothing.
 */
final class WildTests {
    private static final String BRACKETS = "tray 1 write 123 read 123 pour 1238 marsh 19 mornings 19 told 1 cell 1 walker 1 "
        + "pole 1 step 147 stand 14 hand 17 plank 17 rot 17 rise 17 pack 17 send 1 weather 1 pierce 17 far 1 burden 1 "
        + "pull 1 choices 1 bears 1 weakest 1 sunkIn 1 fallsIn 16 skinIn 1 helpers 1 way 16 wayFrom 16 keys 16 isKey 16 "
        + "soonest 176 soonestAt 176 sparing 176 sparingAt 176 planks 1 mostPlanks 6 race 1 raced 16 gone 1 tracks 123 "
        + "sure 1236 luck 1 luckiest 6 copyRow 123 live 16 lived 16 mean 16 mark 4 undo 6";
    private static final List<String> WITHOUT_STATUS = List.of("status", "top", "bottom", "feed", "fault");
    private static final int[] EDGES = {-1, 0, 1, 2, 3, 4, 5, 6, 7, 8, 9, 10, 16, 19, 20, 21, 30, 31, 59, 60, 61, 98, 99, 100,
        299, 300, 301, 899, 900, 901, 9998, 9999, 10000, Integer.MIN_VALUE, Integer.MAX_VALUE, -2, 1 << 30, -(1 << 30)};
    private static final String[] TEXTS = {"marsh 3 by 3 skin 9 soft 8 deep 20; mends 2; firm 0 0; cell 2 2 skin 0;"
        + "walker a at 0 0 to 2 2 weight 9 reach 2 load 3; walker b at 1 1 to 0 0 weight 20 long 3;",
        "loop 9; any a; any b; when skin 1 1 < 5; stand 3; hand a b 1; end; end;", "marsh", "stop;",
        "marsh 6 by 5 skin 99 soft 9 deep 30; walker a at 0 0 to 5 4 weight 20 reach 3 long 30 load 20;"
        + "walker b at 5 4 to 0 0 weight 20 reach 3 long 30 load 20; walker c at 3 3 to 0 0 weight 1; walker d at 0 0 to 0 0 weight 1;"};

    private final Random random;
    private final Map<String, String> brackets = new HashMap<>();
    private final List<Method> face = new ArrayList<>();
    private StiltMarsh x = new StiltMarsh();

    private WildTests(long seed) {
        random = new Random(seed);
        String[] all = BRACKETS.split(" ");
        for (int i = 0; i < all.length; i += 2) {
            brackets.put(all[i], all[i + 1]);
        }
        for (Method m : StiltMarsh.class.getDeclaredMethods()) {
            if (Modifier.isPublic(m.getModifiers())) {
                face.add(m);
            }
        }
        face.sort(Comparator.comparing(Method::getName));
    }

    public static void main(String[] args) throws IllegalAccessException {
        for (int seed = 1; seed <= 150; seed++) {
            new WildTests(seed).play(seed);
        }
        Check.close("WildTests");
    }

    private void play(int seed) throws IllegalAccessException {
        for (int i = 0; i < 400; i++) {
            if (random.nextInt(25) == 0) {
                takeText(TEXTS[random.nextInt(TEXTS.length)]);
            }
            oneCall(seed, face.get(random.nextInt(face.size())));
        }
    }

    private void takeText(String text) {
        Check.feed(x, text);
        if (random.nextBoolean()) {
            x.marsh(text.length());
        } else {
            x.mornings(text.length());
        }
    }

    private void oneCall(int seed, Method m) throws IllegalAccessException {
        Object[] arguments = new Object[m.getParameterCount()];
        StringBuilder call = new StringBuilder("run " + seed + ": " + m.getName());
        for (int i = 0; i < arguments.length; i++) {
            int v = random.nextInt(3) != 0 ? random.nextInt(4) : EDGES[random.nextInt(EDGES.length)];
            if (m.getParameterTypes()[i] == long.class) {
                arguments[i] = random.nextLong() >> random.nextInt(64);
            } else {
                arguments[i] = v;
            }
            call.append(' ').append(arguments[i]);
        }
        String before = look();
        long got;
        try {
            Object answer = m.invoke(x, arguments);
            got = answer instanceof Boolean ? (Boolean) answer ? 1 : 0 : ((Number) answer).longValue();
        } catch (InvocationTargetException e) {
            Check.due(call + " threw " + e.getCause(), false, true);
            return;
        }
        judge(call.toString(), m, got, before);
    }

    private void judge(String call, Method m, long got, String before) {
        int status = x.status();
        if (WITHOUT_STATUS.contains(m.getName())) {
            return;
        }
        Check.due(call + " has status " + status, status == 0 || brackets.get(m.getName()).contains("" + status), true);
        if (status != 0) {
            Check.due(call + " with status " + status, got, m.getReturnType() == boolean.class ? 0 : StiltMarsh.NONE);
            Check.due(call + " changed nothing with status " + status, look().equals(before), true);
        }
    }

    /** All that can be seen, but for the tape and the fault, which marsh() and mornings() change with 9. */
    private String look() {
        StringBuilder b = new StringBuilder();
        b.append(x.top()).append('/').append(x.bottom());
        for (int what = 0; what <= 10; what++) {
            b.append(' ').append(x.told(what));
        }
        for (int c = 0; c < 30; c++) {
            for (int what = 0; what <= 6; what++) {
                b.append(' ').append(x.cell(c % 6, c / 6, what));
            }
        }
        for (int w = 0; w < 4; w++) {
            for (int what = 0; what <= 7; what++) {
                b.append(' ').append(x.walker(w, what));
            }
            for (int what = 0; what <= 5; what++) {
                b.append(' ').append(x.pole(w, what % 2, what / 2));
            }
        }
        for (int tray = 0; tray < 4; tray++) {
            for (int place = 0; place < 60; place++) {
                b.append(' ').append(x.read(tray, place)).append('.').append(x.status());
            }
        }
        for (int what = 0; what < 5; what++) {
            b.append(' ').append(x.lived(what));
        }
        return b.toString();
    }
}
