import java.lang.reflect.InvocationTargetException;
import java.lang.reflect.Method;
import java.lang.reflect.Modifier;
import java.util.ArrayList;
import java.util.HashMap;
import java.util.List;
import java.util.Map;
import java.util.function.Consumer;

/**
 * One sentence of the document, with calls at its boundary, just inside and just outside of it. What comes ahead of
 * these calls is told once (`on`, `mornings`, `after`, ..) and done anew, on a new object, for each `yes` and `no`.
 */
final class Edge {
    private static final Map<String, Method> FACE = new HashMap<>();
    private static final int PARTS = 5;

    static {
        for (Method m : StiltMarsh.class.getDeclaredMethods()) {
            if (Modifier.isPublic(m.getModifiers())) {
                FACE.put(m.getName(), m);
            }
        }
    }

    private final String sentence;
    private final List<Consumer<StiltMarsh>> ahead = new ArrayList<>();
    private StiltMarsh x;

    Edge(String sentence) {
        this.sentence = sentence;
    }

    // ---- what comes ahead

    /** A new object alone. */
    Edge onNew() {
        ahead.clear();
        x = null;
        return this;
    }

    /** A new object with a marsh. */
    Edge on(String marsh) {
        onNew();
        ahead.add(o -> {
            Check.feed(o, marsh);
            o.marsh(marsh.length());
            Check.due(sentence + ": taken ahead: " + marsh, o.status(), 0);
        });
        return this;
    }

    Edge mornings(String text) {
        ahead.add(o -> {
            Check.feed(o, text);
            o.mornings(text.length());
            Check.due(sentence + ": taken ahead: " + text, o.status(), 0);
        });
        return this;
    }

    /** A call that goes well. */
    Edge after(String name, long... arguments) {
        ahead.add(o -> {
            call(o, name, arguments);
            Check.due(sentence + ": ahead: " + shown(name, arguments), o.status(), 0);
        });
        return this;
    }

    Edge fed(String text) {
        ahead.add(o -> Check.feed(o, text));
        return this;
    }

    /** Stands till a moment. */
    Edge till(int moment) {
        ahead.add(o -> standTill(o, moment));
        return this;
    }

    static void standTill(StiltMarsh o, int moment) {
        for (int left = moment - o.told(4); left > 0; left -= 99) {
            o.stand(Math.min(99, left));
        }
    }

    private StiltMarsh make() {
        StiltMarsh made = new StiltMarsh();
        for (Consumer<StiltMarsh> one : ahead) {
            one.accept(made);
        }
        return made;
    }

    // ---- calls, each on a new object

    /** A call with STATUS 0 (a boolean counts 1 or 0). */
    Edge yes(long want, String name, long... arguments) {
        x = make();
        return then(want, name, arguments);
    }

    /** A call that is refused: NONE or false, and all that can be seen stays as it was. */
    Edge no(int status, String name, long... arguments) {
        // One object is good for 512 calls, so each part is looked at on an object of its own.
        for (int part = 0; part < PARTS; part++) {
            x = make();
            thenNo(status, name, arguments);
            boolean same = partOf(x, part).equals(partOf(make(), part));
            Check.due(sentence + ": " + shown(name, arguments) + " changes nothing, part " + part, same, true);
        }
        x = null;
        return this;
    }

    /**
     * Each argument in turn, from `base` on, which goes well: below its least and above its most the call is refused
     * with STATUS 1, at both and just inside of them it is not.
     */
    Edge ranges(String name, long[] base, long[]... bounds) {
        for (int i = 0; i < base.length; i++) {
            long least = bounds[i][0];
            long most = bounds[i][1];
            for (long outside : new long[] {least - 1, most + 1, Integer.MIN_VALUE, Integer.MAX_VALUE}) {
                no(1, name, with(base, i, outside));
            }
            for (long inside : new long[] {least, Math.min(least + 1, most), Math.max(least, most - 1), most}) {
                x = make();
                long[] arguments = with(base, i, inside);
                call(x, name, arguments);
                Check.due(sentence + ": " + shown(name, arguments) + " is in range", x.status() != 1, true);
            }
        }
        x = make();
        call(x, name, base);
        Check.due(sentence + ": " + shown(name, base) + ", status", x.status(), 0);
        x = null;
        return this;
    }

    private static long[] with(long[] base, int i, long value) {
        long[] all = base.clone();
        all[i] = value;
        return all;
    }

    static long[] of(long... numbers) {
        return numbers;
    }

    // ---- calls on the same object as the one ahead

    /** A call with STATUS 0. */
    Edge then(long want, String name, long... arguments) {
        String what = sentence + ": " + shown(name, arguments);
        Check.due(what, call(object(), name, arguments), want);
        Check.due(what + ", status", object().status(), 0);
        return this;
    }

    Edge thenNo(int status, String name, long... arguments) {
        String what = sentence + ": " + shown(name, arguments);
        boolean isBoolean = FACE.get(name).getReturnType() == boolean.class;
        Check.due(what, call(object(), name, arguments), isBoolean ? 0 : StiltMarsh.NONE);
        Check.due(what + ", status", object().status(), status);
        return this;
    }

    /** A call of those that have no STATUS. */
    Edge tells(long want, String name, long... arguments) {
        int before = object().status();
        Check.due(sentence + ": " + shown(name, arguments), call(object(), name, arguments), want);
        Check.due(sentence + ": " + name + " has no status", object().status(), before);
        return this;
    }

    Edge thenFed(String text) {
        Check.feed(object(), text);
        return this;
    }

    private StiltMarsh object() {
        if (x == null) {
            x = make();
        }
        return x;
    }

    // ---- texts, each on a new object

    /** A text that is taken as a marsh, with so many walkers. */
    Edge takes(int walkers, String text) {
        return taken("marsh", walkers, text);
    }

    Edge takesMornings(int steps, String text) {
        return taken("mornings", steps, text);
    }

    private Edge taken(String name, int want, String text) {
        x = make();
        Check.feed(x, text);
        Check.due(sentence + ": " + name + " " + text, call(x, name, text.length()), want);
        Check.due(sentence + ": " + name + " " + text + ", status", x.status(), 0);
        return tells(0, "fault", 0).tells(StiltMarsh.NONE, "fault", 1);
    }

    /** A text with a fault: all stays but the tape and what fault() tells. */
    Edge faulty(int kind, int place, String text) {
        return refusesText("marsh", kind, place, text);
    }

    Edge faultyMornings(int kind, int place, String text) {
        return refusesText("mornings", kind, place, text);
    }

    private Edge refusesText(String name, int kind, int place, String text) {
        String what = sentence + ": " + name + " " + text;
        StiltMarsh twin = make();
        x = make();
        Check.feed(x, text);
        Check.due(what, call(x, name, text.length()), StiltMarsh.NONE);
        Check.due(what + ", status", x.status(), 9);
        Check.due(what + ", fault", x.fault(0), kind);
        Check.due(what + ", its place", x.fault(1), place);
        List<Long> changed = new ArrayList<>();
        List<Long> kept = new ArrayList<>();
        seeMarsh(x, changed);
        seeMarsh(twin, kept);
        Check.due(what + " changes nothing", changed.equals(kept), true);
        Check.due(what + ": the tape is empty then", x.feed(0, 0, 0, 0, 0), 20);
        x = null;
        return this;
    }

    // ---- how calls are made and what can be seen

    private static String shown(String name, long... arguments) {
        StringBuilder b = new StringBuilder(name).append('(');
        for (int i = 0; i < arguments.length; i++) {
            b.append(i == 0 ? "" : ", ").append(arguments[i]);
        }
        return b.append(')').toString();
    }

    static long call(StiltMarsh o, String name, long... arguments) {
        Method m = FACE.get(name);
        Object[] boxed = new Object[arguments.length];
        for (int i = 0; i < boxed.length; i++) {
            if (m.getParameterTypes()[i] == long.class) {
                boxed[i] = arguments[i];
            } else {
                boxed[i] = Math.toIntExact(arguments[i]);
            }
        }
        try {
            Object answer = m.invoke(o, boxed);
            return answer instanceof Boolean ? (Boolean) answer ? 1 : 0 : ((Number) answer).longValue();
        } catch (IllegalAccessException | InvocationTargetException e) {
            throw new IllegalStateException(shown(name, arguments), e);
        }
    }

    private static void see(StiltMarsh o, List<Long> all, String name, long... arguments) {
        all.add(call(o, name, arguments));
        all.add((long) o.status());
    }

    private static void seeTold(StiltMarsh o, List<Long> all) {
        for (int what = 0; what <= 10; what++) {
            see(o, all, "told", what);
        }
    }

    private static void seeMarsh(StiltMarsh o, List<Long> all) {
        seeTold(o, all);
        int wide = o.told(0);
        int cells = wide * o.told(1);
        for (int c = 0; c < cells; c++) {
            for (int what = 0; what <= 6; what++) {
                all.add((long) o.cell(c % wide, c / wide, what));
            }
        }
        int walkers = o.told(2);
        for (int w = 0; w < walkers; w++) {
            for (int what = 0; what <= 7; what++) {
                all.add((long) o.walker(w, what));
            }
            for (int i = 0; i < 6; i++) {
                all.add((long) o.pole(w, i % 2, i / 2));
            }
        }
    }

    private static void seeTrays(StiltMarsh o, List<Long> all) {
        for (int tray = 0; tray < 4; tray++) {
            long got = 0;
            for (int place = 0; place <= 60 && got != StiltMarsh.NONE; place++) {
                got = o.read(tray, place);
                all.add(got);
            }
            all.add((long) o.status());
            // A number with another byte in each place tells the sort.
            see(o, all, "write", tray, 0, 0x0102030405060708L);
            see(o, all, "read", tray, 0);
        }
    }

    private static void seeTape(StiltMarsh o, List<Long> all) {
        int tape = o.feed(0, 0, 0, 0, 0);
        all.add((long) tape);
        see(o, all, "marsh", tape == StiltMarsh.NONE ? 900 : tape - 20);
        all.add((long) o.fault(0));
        all.add((long) o.fault(1));
        seeTold(o, all);
    }

    private static void seeMarks(StiltMarsh o, List<Long> all) {
        for (int mark = 0; mark < 4; mark++) {
            see(o, all, "undo");
            seeTold(o, all);
            see(o, all, "live", 3);
        }
    }

    /** A part of what can be seen of an object, which is not to be used any more then. */
    private static List<Long> partOf(StiltMarsh o, int part) {
        List<Long> all = new ArrayList<>();
        switch (part) {
            case 0:
                all.addAll(List.of(o.top(), o.bottom(), (long) o.fault(0), (long) o.fault(1)));
                seeMarsh(o, all);
                break;
            case 1: seeTrays(o, all); break;
            case 2: seeTape(o, all); break;
            case 3: seeMarks(o, all); break;
            default:
                for (int what = 0; what < 5; what++) {
                    see(o, all, "lived", what);
                }
                see(o, all, "live", 3);
                seeMarsh(o, all);
                break;
        }
        return all;
    }
}
