import java.util.Random;

/** Random runs of calls, sensible ones and wild ones, on the class and on the plain model of the document. */
final class ModelTests {
    private static final String[] NAMES = {"ann", "bo", "c", "dorothea", "eve"};
    private final Random random;
    private final StiltMarsh x = new StiltMarsh();
    private final Model m = new Model();
    private final StringBuilder story = new StringBuilder();
    private final int size;

    private ModelTests(long seed, int size) {
        random = new Random(seed);
        this.size = size;
    }

    public static void main(String[] args) {
        int runs = args.length > 0 ? Integer.parseInt(args[0]) : 4000;
        long from = args.length > 1 ? Long.parseLong(args[1]) : 1;
        for (long seed = from; seed < from + runs; seed++) {
            ModelTests run = new ModelTests(seed, seed % 40 == 0 ? 3 : seed % 4 == 0 ? 2 : 1);
            if (!run.play(seed)) {
                System.out.println(run.story);
                break;
            }
        }
        Check.close("ModelTests");
    }

    private boolean play(long seed) {
        // What a call costs in the model grows with the marsh, so big ones get fewer calls.
        int calls = size == 1 ? 120 : size == 2 ? 60 : 30;
        takeMarsh(random.nextInt(8) == 0);
        if (seed % 25 == 0) {
            nearTheLastMoment();
        }
        for (int i = 0; i < calls; i++) {
            boolean same = oneCall();
            same &= m.status == x.status() && m.top == x.top() && m.bottom == x.bottom();
            Check.due("run " + seed + ", call " + i, same, true);
            if (!same) {
                story.append("status ").append(x.status()).append(", model ").append(m.status).append('\n');
                return false;
            }
        }
        boolean same = looksTheSame();
        Check.due("run " + seed + ", at its end", same, true);
        return same;
    }

    /** So late that what is done later goes beyond 9,999 now and then. */
    private void nearTheLastMoment() {
        for (int i = 0; i < 101; i++) {
            int many = i == 100 ? 50 + random.nextInt(50) : 99;
            is("stand " + many, x.stand(many), m.stand(many));
            int w = random.nextInt(4);
            is("rise " + w, x.rise(w, 0, 0), m.rise(w, 0, 0));
        }
    }

    private boolean is(String call, long got, long want) {
        story.append(call).append(" -> ").append(got);
        if (got != want) {
            story.append(", model ").append(want);
        }
        story.append('\n');
        return got == want;
    }

    private boolean is(String call, boolean got, long want) {
        return is(call, got ? 1 : 0, want);
    }

    /** All that the object tells about itself. */
    private boolean looksTheSame() {
        boolean same = true;
        for (int what = 0; what <= 10; what++) {
            same &= is("told " + what, x.told(what), m.told(what));
        }
        for (int r = 0; r < m.now.deep; r++) {
            for (int c = 0; c < m.now.wide; c++) {
                for (int what = 0; what <= 6; what++) {
                    same &= is("cell " + c + " " + r + " " + what, x.cell(c, r, what), m.cell(c, r, what));
                }
            }
        }
        for (int w = 0; w < m.now.walkers.size(); w++) {
            for (int what = 0; what <= 7; what++) {
                same &= is("walker " + w + " " + what, x.walker(w, what), m.walker(w, what));
            }
            for (int what = 0; what <= 5; what++) {
                same &= is("pole " + w + " " + what, x.pole(w, what % 2, what / 2), m.pole(w, what % 2, what / 2));
            }
        }
        return same;
    }

    // ---- numbers that are mostly sensible

    private int wild() {
        int[] some = {-1, -2, 4, 6, 7, 30, 61, 100, 10000, Integer.MIN_VALUE, Integer.MAX_VALUE};
        return some[random.nextInt(some.length)];
    }

    private int below(int n) {
        return random.nextInt(60) == 0 ? wild() : random.nextInt(Math.max(1, n));
    }

    private int column() {
        return below(m.now.wide);
    }

    private int row() {
        return below(m.now.deep);
    }

    private int who() {
        return below(m.now.walkers.size());
    }

    // ---- texts

    private String marshText() {
        int most = size == 1 ? 3 : size == 2 ? 4 : 6;
        int wide = 1 + random.nextInt(size == 1 && random.nextInt(3) == 0 ? 6 : most);
        int deep = wide > most ? 1 : 1 + random.nextInt(Math.min(5, most));
        StringBuilder b = new StringBuilder("marsh " + wide + " by " + deep + " skin " + random.nextInt(40) + " soft "
            + random.nextInt(10) + " deep " + random.nextInt(31) + " ; ");
        if (random.nextInt(3) != 0) {
            b.append("mends " + random.nextInt(10) + ";");
        }
        for (int i = random.nextInt(5); i > 0; i--) {
            b.append("cell " + random.nextInt(wide) + " " + random.nextInt(deep));
            b.append(random.nextBoolean() ? " skin " + random.nextInt(30) : "");
            b.append(random.nextBoolean() ? " soft " + random.nextInt(10) : "");
            b.append(random.nextBoolean() ? " deep " + random.nextInt(31) : "");
            b.append(random.nextBoolean() ? " odds " + random.nextInt(17) : "");
            b.append(";\n");
        }
        for (int i = random.nextInt(4); i > 0; i--) {
            b.append("firm " + random.nextInt(wide) + " " + random.nextInt(deep) + ";");
        }
        int walkers = random.nextInt(9) == 0 ? random.nextInt(6) : 1 + random.nextInt(4);
        for (int i = 0; i < walkers; i++) {
            b.append("walker " + NAMES[random.nextInt(30) == 0 ? 0 : i] + " at " + random.nextInt(wide) + " "
                + random.nextInt(deep) + " to " + random.nextInt(wide) + " " + random.nextInt(deep) + " weight "
                + (1 + random.nextInt(20)));
            b.append(random.nextBoolean() ? " reach " + (1 + random.nextInt(3)) : "");
            b.append(random.nextInt(3) != 0 ? " long " + (1 + random.nextInt(30)) : "");
            b.append(random.nextBoolean() ? " load " + random.nextInt(21) : "");
            b.append(" ;");
        }
        return b.toString();
    }

    private String name() {
        return NAMES[random.nextInt(20) == 0 ? random.nextInt(5) : random.nextInt(Math.max(1, m.now.walkers.size()))];
    }

    private String cellText() {
        return random.nextInt(Math.max(1, m.now.wide)) + " " + random.nextInt(Math.max(1, m.now.deep));
    }

    private String steps(int many, int within) {
        StringBuilder b = new StringBuilder();
        for (int i = 0; i < many; i++) {
            switch (random.nextInt(9)) {
                case 0: b.append("stand " + (1 + random.nextInt(20))); break;
                case 1: b.append("hand " + name() + " " + name() + " " + (1 + random.nextInt(20))); break;
                case 2:
                case 3: b.append("any " + name()); break;
                case 4:
                case 5: b.append("step " + name() + " " + random.nextInt(2) + " " + cellText()); break;
                case 6:
                    if (within < 3 || random.nextInt(30) == 0) {
                        b.append("loop " + (1 + random.nextInt(random.nextInt(4) == 0 ? 99 : 5)) + ";"
                            + steps(random.nextInt(4), within + 1) + "end");
                        break;
                    }
                    b.append("stand 1");
                    break;
                case 7:
                    if (within < 3 || random.nextInt(30) == 0) {
                        String test = random.nextInt(3) == 0 ? "fallen " + name()
                            : random.nextInt(3) == 0 ? "home " + name()
                            : "skin " + cellText() + "<>=".charAt(random.nextInt(3)) + random.nextInt(20);
                        b.append("when " + test + ";" + steps(random.nextInt(4), within + 1) + "end");
                        break;
                    }
                    b.append("stand 1");
                    break;
                default: b.append(random.nextInt(6) == 0 ? "stop" : "any " + name()); break;
            }
            b.append(random.nextInt(3) == 0 ? " ;\n" : ";");
        }
        return b.toString();
    }

    /** A text with one thing that is perhaps wrong. */
    private String spoilt(String text) {
        if (text.isEmpty()) {
            return "?";
        }
        int at = random.nextInt(text.length());
        String[] some = {"", " ", "0", "9", "12345", "a", ";", "<", "A", "é", "end ", "marsh ", "toolongaword", "mends 1;"};
        String put = some[random.nextInt(some.length)];
        int cut = random.nextInt(3) == 0 ? random.nextInt(4) : random.nextInt(2);
        String spoilt = text.substring(0, at) + put + text.substring(Math.min(text.length(), at + cut));
        return random.nextInt(5) == 0 ? spoilt.substring(0, random.nextInt(spoilt.length() + 1)) : spoilt;
    }

    private void feed(String text) {
        for (int i = 0; i < text.length(); i += 20) {
            int[] v = new int[5];
            for (int k = 0; k < 20; k++) {
                int sign = i + k < text.length() ? text.charAt(i + k) : 0;
                v[k / 4] |= sign << (24 - 8 * (k % 4));
            }
            is("feed", x.feed(v[0], v[1], v[2], v[3], v[4]), m.feed(v[0], v[1], v[2], v[3], v[4]));
        }
    }

    private boolean takeMarsh(boolean spoil) {
        String text = marshText();
        text = spoil ? spoilt(text) : text;
        feed(text);
        int n = random.nextInt(50) == 0 ? wild() : text.length();
        boolean same = is("marsh " + text, x.marsh(n), m.marsh(n));
        same &= is("fault 0", x.fault(0), m.fault(0)) & is("fault 1", x.fault(1), m.fault(1));
        return same & is("fault 2", x.fault(2), m.fault(2));
    }

    private boolean takeMornings(boolean spoil) {
        String text = steps(1 + random.nextInt(random.nextInt(6) == 0 ? 31 : 6), 0);
        text = spoil ? spoilt(text) : text;
        feed(text);
        int n = random.nextInt(50) == 0 ? wild() : text.length();
        boolean same = is("mornings " + text, x.mornings(n), m.mornings(n));
        return same & is("fault 0", x.fault(0), m.fault(0)) & is("fault 1", x.fault(1), m.fault(1));
    }

    // ---- calls

    private boolean oneCall() {
        switch (random.nextInt(8)) {
            case 0: return trayCall();
            case 1: return textCall();
            case 2:
            case 3: return deed();
            case 4: return foresight();
            case 5: return wayCall();
            case 6: return raceOrHole();
            default: return morningCall();
        }
    }

    private boolean trayCall() {
        int t = below(4);
        int p = below(8);
        switch (random.nextInt(7)) {
            case 0:
                int sort = below(4);
                int many = below(random.nextBoolean() ? 8 : 61);
                return is("tray " + t + " " + sort + " " + many, x.tray(t, sort, many), m.tray(t, sort, many));
            case 1:
                long big = random.nextLong();
                return is("write " + t + " " + p + " " + big, x.write(t, p, big), m.write(t, p, big));
            case 2:
                int v = random.nextInt(3) == 0 || m.now.walkers.isEmpty() ? random.nextInt(60)
                    : m.now.walkers.get(random.nextInt(m.now.walkers.size())).burden();
                return is("write " + t + " " + p + " " + v, x.write(t, p, v), m.write(t, p, v));
            case 3: return is("read " + t + " " + p, x.read(t, p), m.read(t, p));
            case 4:
                int to = random.nextBoolean() ? t : below(4);
                int at = below(8);
                int n = below(8);
                return is("pour " + t + " " + p + " " + to + " " + at + " " + n, x.pour(t, p, to, at, n),
                    m.pour(t, p, to, at, n));
            case 5: return is("tracks " + t, x.tracks(t), m.tracks(t, false));
            default: return is("sure " + t, x.sure(t), m.tracks(t, true));
        }
    }

    private boolean textCall() {
        int c = column();
        int r = row();
        int w = who();
        int p = below(2);
        int what = below(12);
        switch (random.nextInt(9)) {
            case 0: return random.nextInt(6) != 0 || takeMarsh(random.nextInt(2) == 0);
            case 1:
            case 2: return takeMornings(random.nextInt(3) == 0);
            case 3: return is("told " + what, x.told(what), m.told(what));
            case 4: return is("cell " + c + " " + r + " " + what, x.cell(c, r, what), m.cell(c, r, what));
            case 5: return is("walker " + w + " " + what, x.walker(w, what), m.walker(w, what));
            case 6: return is("pole " + w + " " + p + " " + what, x.pole(w, p, what), m.pole(w, p, what));
            case 7: return is("mark", x.mark(), m.mark());
            default: return is("undo", x.undo(), m.undo());
        }
    }

    private boolean deed() {
        int c = column();
        int r = row();
        int w = who();
        int o = who();
        int p = below(2);
        int n = below(21);
        switch (random.nextInt(16)) {
            case 0:
            case 1:
            case 2:
            case 3:
            case 4:
                if (m.now.isWalker(w) && random.nextInt(3) != 0) {
                    c = m.now.walkers.get(w).x[1 - (p & 1)] + random.nextInt(3) - 1;
                    r = m.now.walkers.get(w).y[1 - (p & 1)] + random.nextInt(3) - 1;
                }
                return is("step " + w + " " + p + " " + c + " " + r, x.step(w, p, c, r), m.step(w, p, c, r));
            case 5:
                int many = below(random.nextInt(4) == 0 ? 101 : 5);
                return is("stand " + many, x.stand(many), m.stand(many));
            case 6:
            case 7: return is("hand " + w + " " + o + " " + n, x.hand(w, o, n), m.hand(w, o, n));
            case 8: return is("plank " + c + " " + r, x.plank(c, r), m.plank(c, r));
            case 9: return is("rot " + c + " " + r, x.rot(c, r), m.rot(c, r));
            case 10:
            case 11: return is("rise " + w + " " + c + " " + r, x.rise(w, c, r), m.rise(w, c, r));
            case 12: return is("pack " + w + " " + n, x.pack(w, n), m.pack(w, n));
            case 13: return is("send " + w + " " + c + " " + r, x.send(w, c, r), m.send(w, c, r));
            case 14: return is("weather " + (n - 1) / 2, x.weather((n - 1) / 2), m.weather((n - 1) / 2));
            default: return is("pierce " + c + " " + r, x.pierce(c, r), m.pierce(c, r));
        }
    }

    private boolean foresight() {
        int c = column();
        int r = row();
        int w = who();
        int p = below(2);
        int n = below(random.nextBoolean() ? 6 : 101);
        switch (random.nextInt(10)) {
            case 0:
                int c2 = column();
                int r2 = row();
                return is("far " + c + " " + r + " " + c2 + " " + r2, x.far(c, r, c2, r2), m.farOf(c, r, c2, r2));
            case 1: return is("burden " + w, x.burden(w), m.burden(w));
            case 2: return is("pull " + w + " " + p, x.pull(w, p), m.pull(w, p));
            case 3: return is("choices " + w + " " + p, x.choices(w, p), m.choices(w, p));
            case 4: return is("bears " + w + " " + c + " " + r, x.bears(w, c, r), m.bears(w, c, r));
            case 5: return is("weakest " + w, x.weakest(w), m.weakest(w));
            case 6: return is("sunkIn " + w + " " + p + " " + n, x.sunkIn(w, p, n), m.sunkIn(w, p, n));
            case 7: return is("fallsIn " + w, x.fallsIn(w), m.fallsIn(w));
            case 8: return is("skinIn " + c + " " + r + " " + n, x.skinIn(c, r, n), m.skinIn(c, r, n));
            default: return is("helpers " + w, x.helpers(w), m.helpers(w));
        }
    }

    private boolean wayCall() {
        int c = column();
        int r = row();
        int c2 = column();
        int r2 = row();
        int w = who();
        int n = random.nextInt(60) == 0 ? wild() : 1 + random.nextInt(size == 1 ? 3 : random.nextInt(6) == 0 ? 3 : 2);
        int what = below(3);
        switch (random.nextInt(10)) {
            case 0: return is("way " + w, x.way(w), m.way(w));
            case 1:
                return is("wayFrom " + w + " " + c + " " + r + " " + c2 + " " + r2, x.wayFrom(w, c, r, c2, r2),
                    m.wayFrom(w, c, r, c2, r2));
            case 2: return is("keys " + w, x.keys(w), m.keys(w));
            case 3: return is("isKey " + w + " " + c + " " + r, x.isKey(w, c, r), m.isKey(w, c, r));
            case 4: return is("soonest " + w + " " + n, x.soonest(w, n), m.cross(w, n, false, -1));
            case 5:
                return what < 0 ? is("soonestAt", x.soonestAt(w, n, what), m.no(1))
                    : is("soonestAt " + w + " " + n + " " + what, x.soonestAt(w, n, what), m.cross(w, n, false, what));
            case 6: return is("sparing " + w + " " + n, x.sparing(w, n), m.cross(w, n, true, -1));
            case 7:
                return what < 0 ? is("sparingAt", x.sparingAt(w, n, what), m.no(1))
                    : is("sparingAt " + w + " " + n + " " + what, x.sparingAt(w, n, what), m.cross(w, n, true, what));
            case 8: return is("planks " + w, x.planks(w), m.planks(w));
            default: return is("mostPlanks", x.mostPlanks(), m.mostPlanks());
        }
    }

    private boolean raceOrHole() {
        int w = who();
        int o = who();
        int turns = random.nextInt(60) == 0 ? wild() : 1 + random.nextInt(size == 1 ? 3 : random.nextInt(8) == 0 ? 3 : 2);
        int what = below(3);
        int r = row();
        int t = below(4);
        switch (random.nextInt(7)) {
            case 0:
            case 1: return is("race " + w + " " + o + " " + turns, x.race(w, o, turns), m.race(w, o, turns, -1));
            case 2:
                return what < 0 ? is("raced", x.raced(w, o, turns, what), m.no(1))
                    : is("raced " + w + " " + o + " " + turns + " " + what, x.raced(w, o, turns, what),
                        m.race(w, o, turns, what));
            case 3: return is("gone " + r, x.gone(r), m.gone(r));
            case 4: return is("luck " + r, x.luck(r), m.luck(r));
            case 5: return is("luckiest", x.luckiest(), m.luckiest());
            default: return is("copyRow " + r + " " + t, x.copyRow(r, t), m.copyRow(r, t));
        }
    }

    private boolean morningCall() {
        int seed = random.nextInt(60) == 0 ? wild() : random.nextInt(10000);
        int many = below(21);
        int what = below(5);
        switch (random.nextInt(4)) {
            case 0: return random.nextInt(3) != 0 || is("mean " + seed + " " + many, x.mean(seed, many), m.mean(seed, many));
            case 1: return is("live " + seed, x.live(seed), m.live(seed));
            default: return is("lived " + what, x.lived(what), m.lived(what));
        }
    }
}
