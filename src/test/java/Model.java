import java.util.ArrayDeque;
import java.util.ArrayList;
import java.util.Arrays;
import java.util.HashMap;
import java.util.List;
import java.util.Map;
import java.util.Set;

/**
 * The document once more, written as plainly as can be and without regard to speed: no closed forms, no
 * pruning, exceptions for faults, a tree for the mornings. ModelTests compares the class with it call by call.
 */
final class Model {
    static final int NONE = -1;
    static final Set<String> OWN = Set.of("marsh", "by", "skin", "soft", "deep", "mends", "cell", "odds", "firm",
        "walker", "at", "to", "weight", "reach", "long", "load", "step", "stand", "hand", "any", "when", "fallen",
        "home", "loop", "end", "stop");

    static final class Fault extends RuntimeException {
        private static final long serialVersionUID = 1L;
        final int kind;
        final int place;

        Fault(int kind, int place) {
            super(null, null, false, false);
            this.kind = kind;
            this.place = place;
        }
    }

    static final class Halt extends RuntimeException {
        private static final long serialVersionUID = 1L;

        Halt() {
            super(null, null, false, false);
        }
    }

    static final class Walker {
        String name;
        int[] x = new int[2];
        int[] y = new int[2];
        int[] sunk = new int[2];
        int toX;
        int toY;
        int weight;
        int reach = 1;
        int length = 10;
        int load;
        int steps;
        boolean fallen;

        Walker copy() {
            Walker w = new Walker();
            w.name = name;
            w.x = x.clone();
            w.y = y.clone();
            w.sunk = sunk.clone();
            w.toX = toX;
            w.toY = toY;
            w.weight = weight;
            w.reach = reach;
            w.length = length;
            w.load = load;
            w.steps = steps;
            w.fallen = fallen;
            return w;
        }

        int burden() {
            return weight + load;
        }

        boolean isHome() {
            return !fallen && x[0] == toX && x[1] == toX && y[0] == toY && y[1] == toY;
        }
    }

    static final class Spot {
        int skin;
        int whole;
        int soft;
        int deep;
        int odds = 8;
        boolean firm;

        Spot copy() {
            Spot s = new Spot();
            s.skin = skin;
            s.whole = whole;
            s.soft = soft;
            s.deep = deep;
            s.odds = odds;
            s.firm = firm;
            return s;
        }
    }

    static final class Node {
        String word;
        String test;
        int a;
        int b;
        int c;
        int d;
        char sign;
        List<Node> body;
    }

    static final class World {
        int wide;
        int deep;
        int mends;
        int moment;
        Spot[][] spots = new Spot[0][0];
        List<Walker> walkers = new ArrayList<>();
        List<Node> mornings;
        int morningSteps;

        World copy() {
            World w = new World();
            w.wide = wide;
            w.deep = deep;
            w.mends = mends;
            w.moment = moment;
            w.spots = new Spot[deep][wide];
            for (int r = 0; r < deep; r++) {
                for (int c = 0; c < wide; c++) {
                    w.spots[r][c] = spots[r][c].copy();
                }
            }
            for (Walker x : walkers) {
                w.walkers.add(x.copy());
            }
            w.mornings = mornings;
            w.morningSteps = morningSteps;
            return w;
        }

        boolean isCell(int c, int r) {
            return c >= 0 && c < wide && r >= 0 && r < deep;
        }

        boolean isWalker(int w) {
            return w >= 0 && w < walkers.size();
        }

        /** One moment; pole `airPole` of `airWalker` is in the air, if that is not null. */
        void moment(Walker airWalker, int airPole) {
            for (Walker w : walkers) {
                for (int p = 0; p < 2; p++) {
                    if (w.fallen || w == airWalker && p == airPole) {
                        continue;
                    }
                    int bears = w == airWalker ? w.burden() : (w.burden() + 1) / 2;
                    Spot s = spots[w.y[p]][w.x[p]];
                    if (s.firm) {
                        continue;
                    }
                    if (s.skin > 0) {
                        s.skin = Math.max(0, s.skin - bears);
                        continue;
                    }
                    if (w.sunk[p] < s.deep) {
                        w.sunk[p] = Math.min(s.deep, w.sunk[p] + (int) Math.floor(s.soft * bears / 8.0));
                    }
                    if (w.sunk[p] >= w.length) {
                        w.fallen = true;
                    }
                }
            }
            for (int r = 0; r < deep; r++) {
                for (int c = 0; c < wide; c++) {
                    Spot s = spots[r][c];
                    boolean trodden = false;
                    for (Walker w : walkers) {
                        for (int p = 0; p < 2; p++) {
                            trodden |= w.x[p] == c && w.y[p] == r && !(w == airWalker && p == airPole);
                        }
                    }
                    if (!s.firm && !trodden) {
                        s.skin = Math.min(s.whole, s.skin + mends);
                    }
                }
            }
            moment = Math.min(9999, moment + 1);
        }

        int skinOfAll() {
            int sum = 0;
            for (Spot[] row : spots) {
                for (Spot s : row) {
                    sum += s.firm ? 0 : s.skin;
                }
            }
            return sum;
        }

        boolean inReach(Walker w, int pole, int c, int r) {
            return far(w.x[1 - pole], w.y[1 - pole], c, r) <= w.reach;
        }

        int doStep(Walker w, int pole, int c, int r) {
            int moments = 1 + w.sunk[pole] / 2;
            for (int i = 1; i <= moments; i++) {
                moment(w, pole);
                if (w.fallen) {
                    return i;
                }
            }
            w.x[pole] = c;
            w.y[pole] = r;
            w.sunk[pole] = 0;
            w.steps++;
            return moments;
        }

        boolean near(Walker a, Walker b) {
            boolean near = false;
            for (int p = 0; p < 2; p++) {
                for (int q = 0; q < 2; q++) {
                    near |= far(a.x[p], a.y[p], b.x[q], b.y[q]) <= Math.min(a.reach, b.reach);
                }
            }
            return near;
        }

        boolean canHand(Walker a, Walker b, int load) {
            return a != b && !a.fallen && !b.fallen && near(a, b) && a.load >= load && b.load + load <= 20;
        }
    }

    static int far(int c, int r, int c2, int r2) {
        return Math.abs(c - c2) + Math.abs(r - r2);
    }

    // ---- the object

    World now = new World();
    int status;
    long top = 0;
    long bottom = 1;
    long[][] trays = new long[4][];
    int[] sorts = new int[4];
    List<Integer> tape = new ArrayList<>();
    int faultKind = NONE;
    int faultPlace = NONE;
    List<World> marks = new ArrayList<>();
    int[] lived;

    long no(int why) {
        status = why;
        return NONE;
    }

    long nay(int why) {
        status = why;
        return 0;
    }

    long yes(long v) {
        status = 0;
        return v;
    }

    // ---- trays

    long tray(int t, int sort, int many) {
        if (t < 0 || t > 3 || sort < 0 || sort > 3 || many < 0 || many > 60) {
            return nay(1);
        }
        trays[t] = new long[many];
        sorts[t] = sort;
        return yes(1);
    }

    long write(int t, int place, long v) {
        if (t < 0 || t > 3) {
            return nay(1);
        }
        if (trays[t] == null) {
            return nay(2);
        }
        if (place < 0 || place >= trays[t].length) {
            return nay(3);
        }
        int bits = 8 << sorts[t];
        trays[t][place] = v << (64 - bits) >> (64 - bits);
        return yes(1);
    }

    long read(int t, int place) {
        if (t < 0 || t > 3) {
            return no(1);
        }
        if (trays[t] == null) {
            return no(2);
        }
        if (place < 0 || place >= trays[t].length) {
            return no(3);
        }
        return yes(trays[t][place]);
    }

    long pour(int from, int place, int to, int at, int many) {
        if (from < 0 || from > 3 || to < 0 || to > 3 || place < 0 || at < 0 || many < 0) {
            return nay(1);
        }
        if (trays[from] == null || trays[to] == null) {
            return nay(2);
        }
        if (sorts[from] != sorts[to]) {
            return nay(8);
        }
        if ((long) place + many > trays[from].length || (long) at + many > trays[to].length) {
            return nay(3);
        }
        long[] old = trays[from].clone();
        for (int i = 0; i < many; i++) {
            trays[to][at + i] = old[place + i];
        }
        return yes(1);
    }

    // ---- texts

    long feed(int a, int b, int c, int d, int e) {
        if (tape.size() + 20 > 900) {
            return NONE;
        }
        for (int v : new int[] {a, b, c, d, e}) {
            for (int k = 3; k >= 0; k--) {
                tape.add(v >> 8 * k & 255);
            }
        }
        return tape.size();
    }

    private String text;
    private int look;
    private String token;
    private int tokenAt;

    /** The next token: "" at the end, "?" for none that can begin so. */
    private void next() {
        while (look < text.length() && (text.charAt(look) == 10 || text.charAt(look) == 32)) {
            look++;
        }
        tokenAt = look;
        if (look == text.length()) {
            token = "";
            return;
        }
        String rest = text.substring(look);
        token = rest.replaceFirst("(?s)^([a-z]+|[0-9]+|[;<>=]).*$", "$1");
        if (!token.matches("[a-z]+|[0-9]{1,4}|[;<>=]")) {
            token = "?";
            return;
        }
        look += token.length();
    }

    private Fault wrong(int kind) {
        return new Fault(token.equals("?") ? 1 : kind, tokenAt);
    }

    private void expect(String word) {
        if (!token.equals(word)) {
            throw wrong(2);
        }
        next();
    }

    private int number(int least, int most) {
        if (token.isEmpty() || !Character.isDigit(token.charAt(0))) {
            throw wrong(2);
        }
        int v = Integer.parseInt(token);
        if (v < least || v > most) {
            throw wrong(4);
        }
        next();
        return v;
    }

    private int optional(String word, int least, int most, int without) {
        if (!token.equals(word)) {
            return without;
        }
        next();
        return number(least, most);
    }

    private String name() {
        if (!token.matches("[a-z]{1,8}") || OWN.contains(token)) {
            throw wrong(2);
        }
        return token;
    }

    private String takeText(int n) {
        StringBuilder b = new StringBuilder();
        for (int i = 0; i < n; i++) {
            b.append((char) (int) tape.get(i));
        }
        tape.clear();
        return b.toString();
    }

    long marsh(int n) {
        if (n < 0 || n > tape.size()) {
            return no(1);
        }
        text = takeText(n);
        look = 0;
        World w = new World();
        try {
            next();
            boolean told = false;
            boolean mendsTold = false;
            while (!token.isEmpty()) {
                if (!told && !token.equals("marsh")) {
                    throw wrong(2);
                }
                if (token.equals("marsh")) {
                    if (told) {
                        throw wrong(5);
                    }
                    told = true;
                    marshPart(w);
                } else if (token.equals("mends")) {
                    if (mendsTold) {
                        throw wrong(5);
                    }
                    mendsTold = true;
                    next();
                    w.mends = number(0, 9);
                } else if (token.equals("cell")) {
                    cellPart(w);
                } else if (token.equals("firm")) {
                    next();
                    int c = number(0, w.wide - 1);
                    w.spots[number(0, w.deep - 1)][c].firm = true;
                } else if (token.equals("walker")) {
                    walkerPart(w);
                } else {
                    throw wrong(2);
                }
                expect(";");
            }
        } catch (Fault f) {
            faultKind = f.kind;
            faultPlace = f.place;
            return no(9);
        }
        for (Spot[] row : w.spots) {
            for (Spot s : row) {
                s.skin = s.whole;
            }
        }
        faultKind = 0;
        faultPlace = NONE;
        now = w;
        return yes(w.walkers.size());
    }

    private void marshPart(World w) {
        next();
        w.wide = number(1, 6);
        expect("by");
        w.deep = number(1, 5);
        expect("skin");
        int whole = number(0, 99);
        expect("soft");
        int soft = number(0, 9);
        expect("deep");
        int deep = number(0, 30);
        w.spots = new Spot[w.deep][w.wide];
        for (Spot[] row : w.spots) {
            for (int c = 0; c < w.wide; c++) {
                row[c] = new Spot();
                row[c].whole = whole;
                row[c].soft = soft;
                row[c].deep = deep;
            }
        }
    }

    private void cellPart(World w) {
        next();
        int c = number(0, w.wide - 1);
        Spot s = w.spots[number(0, w.deep - 1)][c];
        s.whole = optional("skin", 0, 99, s.whole);
        s.soft = optional("soft", 0, 9, s.soft);
        s.deep = optional("deep", 0, 30, s.deep);
        s.odds = optional("odds", 0, 16, s.odds);
    }

    private void walkerPart(World w) {
        if (w.walkers.size() == 4) {
            throw wrong(6);
        }
        next();
        Walker x = new Walker();
        x.name = name();
        for (Walker y : w.walkers) {
            if (y.name.equals(x.name)) {
                throw wrong(3);
            }
        }
        next();
        expect("at");
        Arrays.fill(x.x, number(0, w.wide - 1));
        Arrays.fill(x.y, number(0, w.deep - 1));
        expect("to");
        x.toX = number(0, w.wide - 1);
        x.toY = number(0, w.deep - 1);
        expect("weight");
        x.weight = number(1, 20);
        x.reach = optional("reach", 1, 3, 1);
        x.length = optional("long", 1, 30, 10);
        x.load = optional("load", 0, 20, 0);
        w.walkers.add(x);
    }

    private int stepsRead;

    long mornings(int n) {
        if (n < 0 || n > tape.size() || n > 300) {
            return no(1);
        }
        text = takeText(n);
        look = 0;
        stepsRead = 0;
        List<Node> all;
        try {
            next();
            all = steps(0);
            if (!token.isEmpty()) {
                throw wrong(2);
            }
        } catch (Fault f) {
            faultKind = f.kind;
            faultPlace = f.place;
            return no(9);
        }
        faultKind = 0;
        faultPlace = NONE;
        now.mornings = all;
        now.morningSteps = stepsRead;
        return yes(stepsRead);
    }

    private List<Node> steps(int within) {
        List<Node> list = new ArrayList<>();
        while (!token.isEmpty() && !token.equals("end")) {
            list.add(oneStep(within));
        }
        return list;
    }

    private Node oneStep(int within) {
        Node node = new Node();
        node.word = token;
        if (!List.of("step", "stand", "hand", "any", "when", "loop", "stop").contains(token)) {
            throw wrong(2);
        }
        if (stepsRead == 30) {
            throw wrong(6);
        }
        boolean opens = token.equals("when") || token.equals("loop");
        if (opens && within == 3) {
            throw wrong(7);
        }
        stepsRead++;
        next();
        switch (node.word) {
            case "step":
                node.a = known();
                node.b = number(0, 1);
                node.c = number(0, now.wide - 1);
                node.d = number(0, now.deep - 1);
                break;
            case "stand":
                node.a = number(1, 20);
                break;
            case "hand":
                node.a = known();
                node.b = known();
                node.c = number(1, 20);
                break;
            case "any":
                node.a = known();
                break;
            case "loop":
                node.a = number(1, 99);
                break;
            case "when":
                test(node);
                break;
            default:
                break;
        }
        expect(";");
        if (opens) {
            node.body = steps(within + 1);
            expect("end");
            expect(";");
        }
        return node;
    }

    private void test(Node node) {
        node.test = token;
        if (!List.of("fallen", "home", "skin").contains(token)) {
            throw wrong(2);
        }
        next();
        if (!node.test.equals("skin")) {
            node.a = known();
            return;
        }
        node.a = number(0, now.wide - 1);
        node.b = number(0, now.deep - 1);
        if (!token.matches("[<>=]")) {
            throw wrong(2);
        }
        node.sign = token.charAt(0);
        next();
        node.c = number(0, 99);
    }

    private int known() {
        String name = name();
        for (int w = 0; w < now.walkers.size(); w++) {
            if (now.walkers.get(w).name.equals(name)) {
                next();
                return w;
            }
        }
        throw wrong(3);
    }

    long fault(int what) {
        return what == 0 ? faultKind : what == 1 ? faultPlace : NONE;
    }

    long told(int what) {
        int fallen = 0;
        int home = 0;
        int load = 0;
        int broken = 0;
        int firm = 0;
        for (int w = 0; w < now.walkers.size(); w++) {
            Walker x = now.walkers.get(w);
            fallen += x.fallen ? 1 << w : 0;
            home += x.isHome() ? 1 << w : 0;
            load += x.load;
        }
        for (Spot[] row : now.spots) {
            for (Spot s : row) {
                firm += s.firm ? 1 : 0;
                broken += !s.firm && s.skin == 0 ? 1 : 0;
            }
        }
        int[] all = {now.wide, now.deep, now.walkers.size(), now.mends, now.moment, fallen, home, now.skinOfAll(),
            broken, firm, load};
        return what < 0 || what > 10 ? no(1) : yes(all[what]);
    }

    long cell(int c, int r, int what) {
        if (!now.isCell(c, r) || what < 0 || what > 6) {
            return no(1);
        }
        Spot s = now.spots[r][c];
        int poles = 0;
        for (Walker w : now.walkers) {
            for (int p = 0; p < 2; p++) {
                poles += w.x[p] == c && w.y[p] == r ? 1 : 0;
            }
        }
        return yes(new int[] {s.skin, s.whole, s.soft, s.deep, s.odds, s.firm ? 1 : 0, poles}[what]);
    }

    long walker(int w, int what) {
        if (!now.isWalker(w) || what < 0 || what > 7) {
            return no(1);
        }
        Walker x = now.walkers.get(w);
        return yes(new int[] {x.weight, x.reach, x.length, x.load, x.toX, x.toY, x.fallen ? 1 : 0, x.steps}[what]);
    }

    private boolean isPole(int w, int p) {
        return now.isWalker(w) && (p == 0 || p == 1);
    }

    long pole(int w, int p, int what) {
        if (!isPole(w, p) || what < 0 || what > 2) {
            return no(1);
        }
        Walker x = now.walkers.get(w);
        return yes(new int[] {x.x[p], x.y[p], x.sunk[p]}[what]);
    }

    // ---- what is done

    long step(int w, int p, int c, int r) {
        if (!isPole(w, p) || !now.isCell(c, r)) {
            return no(1);
        }
        Walker x = now.walkers.get(w);
        if (now.moment + 1 + x.sunk[p] / 2 > 9999) {
            return no(4);
        }
        if (x.fallen || !now.inReach(x, p, c, r)) {
            return no(7);
        }
        return yes(now.doStep(x, p, c, r));
    }

    long stand(int moments) {
        if (moments < 1 || moments > 99) {
            return no(1);
        }
        if (now.moment + moments > 9999) {
            return no(4);
        }
        long before = told(5);
        for (int i = 0; i < moments; i++) {
            now.moment(null, 0);
        }
        return yes(told(5) - before);
    }

    long hand(int w, int o, int load) {
        if (!now.isWalker(w) || !now.isWalker(o) || w == o || load < 1 || load > 20) {
            return no(1);
        }
        Walker a = now.walkers.get(w);
        Walker b = now.walkers.get(o);
        if (!now.canHand(a, b, load)) {
            return no(7);
        }
        a.load -= load;
        b.load += load;
        return yes(b.load);
    }

    long plank(int c, int r) {
        if (!now.isCell(c, r)) {
            return no(1);
        }
        if (now.spots[r][c].firm) {
            return no(7);
        }
        now.spots[r][c].firm = true;
        return told(9);
    }

    long rot(int c, int r) {
        if (!now.isCell(c, r)) {
            return nay(1);
        }
        Spot s = now.spots[r][c];
        if (!s.firm) {
            return nay(7);
        }
        s.firm = false;
        s.skin = s.whole;
        return yes(1);
    }

    long rise(int w, int c, int r) {
        if (!now.isWalker(w) || !now.isCell(c, r)) {
            return nay(1);
        }
        Walker x = now.walkers.get(w);
        if (!x.fallen) {
            return nay(7);
        }
        x.fallen = false;
        Arrays.fill(x.x, c);
        Arrays.fill(x.y, r);
        Arrays.fill(x.sunk, 0);
        return yes(1);
    }

    long pack(int w, int load) {
        if (!now.isWalker(w) || load < 0 || load > 20) {
            return no(1);
        }
        Walker x = now.walkers.get(w);
        if (x.fallen) {
            return no(7);
        }
        int old = x.load;
        x.load = load;
        return yes(old);
    }

    long send(int w, int c, int r) {
        if (!now.isWalker(w) || !now.isCell(c, r)) {
            return nay(1);
        }
        now.walkers.get(w).toX = c;
        now.walkers.get(w).toY = r;
        return yes(1);
    }

    long weather(int mends) {
        if (mends < 0 || mends > 9) {
            return nay(1);
        }
        now.mends = mends;
        return yes(1);
    }

    long pierce(int c, int r) {
        if (!now.isCell(c, r)) {
            return no(1);
        }
        Spot s = now.spots[r][c];
        if (s.firm) {
            return no(7);
        }
        int old = s.skin;
        s.skin = 0;
        return yes(old);
    }

    // ---- what would be

    long farOf(int c, int r, int c2, int r2) {
        return now.isCell(c, r) && now.isCell(c2, r2) ? yes(far(c, r, c2, r2)) : no(1);
    }

    long burden(int w) {
        return now.isWalker(w) ? yes(now.walkers.get(w).burden()) : no(1);
    }

    long pull(int w, int p) {
        return isPole(w, p) ? yes(1 + now.walkers.get(w).sunk[p] / 2) : no(1);
    }

    long choices(int w, int p) {
        if (!isPole(w, p)) {
            return no(1);
        }
        int many = 0;
        for (int r = 0; r < now.deep; r++) {
            for (int c = 0; c < now.wide; c++) {
                many += !now.walkers.get(w).fallen && now.inReach(now.walkers.get(w), p, c, r) ? 1 : 0;
            }
        }
        return yes(many);
    }

    /** A walker alone on one pole: a copy of the world in which his other pole is kept in the air. */
    private int bearsOf(int w, int c, int r) {
        World then = now.copy();
        Walker x = then.walkers.get(w);
        then.walkers.clear();
        then.walkers.add(x);
        x.fallen = false;
        x.x[0] = c;
        x.y[0] = r;
        x.sunk[0] = 0;
        for (int i = 0; i < 99; i++) {
            then.moment(x, 1);
            if (x.fallen) {
                return i;
            }
        }
        return 99;
    }

    long bears(int w, int c, int r) {
        return now.isWalker(w) && now.isCell(c, r) ? yes(bearsOf(w, c, r)) : no(1);
    }

    long weakest(int w) {
        if (!now.isWalker(w)) {
            return no(1);
        }
        int best = 0;
        int least = 1000;
        for (int r = now.deep - 1; r >= 0; r--) {
            for (int c = now.wide - 1; c >= 0; c--) {
                int b = bearsOf(w, c, r);
                if (b <= least) {
                    least = b;
                    best = 100 * r + c;
                }
            }
        }
        return yes(best);
    }

    private World standing(int moments) {
        World then = now.copy();
        for (int i = 0; i < moments; i++) {
            then.moment(null, 0);
        }
        return then;
    }

    long sunkIn(int w, int p, int moments) {
        if (!isPole(w, p) || moments < 0 || moments > 99) {
            return no(1);
        }
        return yes(standing(moments).walkers.get(w).sunk[p]);
    }

    long fallsIn(int w) {
        if (!now.isWalker(w)) {
            return no(1);
        }
        for (int i = 0; i <= 99; i++) {
            if (standing(i).walkers.get(w).fallen) {
                return yes(i);
            }
        }
        return no(6);
    }

    long skinIn(int c, int r, int moments) {
        if (!now.isCell(c, r) || moments < 0 || moments > 99) {
            return no(1);
        }
        return yes(standing(moments).spots[r][c].skin);
    }

    long helpers(int w) {
        if (!now.isWalker(w)) {
            return no(1);
        }
        int set = 0;
        Walker x = now.walkers.get(w);
        for (int o = 0; o < now.walkers.size(); o++) {
            Walker y = now.walkers.get(o);
            if (o != w && !x.fallen && !y.fallen && now.near(x, y)) {
                set |= 1 << o;
            }
        }
        return yes(set);
    }

    // ---- ways

    /** Goes through all that two poles can do, step by step; `without` is a cell as 100 row + column, or NONE. */
    private int wayOf(int reach, int[] from, int goal, int without) {
        Map<Integer, Integer> seen = new HashMap<>();
        ArrayDeque<Integer> open = new ArrayDeque<>();
        int start = from[0] * 1000 + from[1];
        seen.put(start, 0);
        open.add(start);
        while (!open.isEmpty()) {
            int here = open.poll();
            int[] poles = {here / 1000, here % 1000};
            if (poles[0] == goal && poles[1] == goal) {
                return seen.get(here);
            }
            for (int p = 0; p < 2; p++) {
                int other = poles[1 - p];
                for (int r = 0; r < now.deep; r++) {
                    for (int c = 0; c < now.wide; c++) {
                        if (100 * r + c != without && far(c, r, other % 100, other / 100) <= reach) {
                            int to = p == 0 ? (100 * r + c) * 1000 + other : other * 1000 + 100 * r + c;
                            if (!seen.containsKey(to)) {
                                seen.put(to, seen.get(here) + 1);
                                open.add(to);
                            }
                        }
                    }
                }
            }
        }
        return NONE;
    }

    private final Map<String, Integer> knownWays = new HashMap<>();

    private int wayOf(World world, Walker x, int without) {
        int[] from = {100 * x.y[0] + x.x[0], 100 * x.y[1] + x.x[1]};
        int goal = 100 * x.toY + x.toX;
        String key = world.wide + " " + world.deep + " " + x.reach + " " + from[0] + " " + from[1] + " " + goal + " "
            + without;
        Integer known = knownWays.get(key);
        if (known == null) {
            known = wayOf(x.reach, from, goal, without);
            knownWays.put(key, known);
        }
        return known;
    }

    long way(int w) {
        if (!now.isWalker(w)) {
            return no(1);
        }
        int way = wayOf(now, now.walkers.get(w), NONE);
        return way == NONE ? no(6) : yes(way);
    }

    long wayFrom(int w, int c, int r, int c2, int r2) {
        if (!now.isWalker(w) || !now.isCell(c, r) || !now.isCell(c2, r2)) {
            return no(1);
        }
        int way = wayOf(now.walkers.get(w).reach, new int[] {100 * r + c, 100 * r + c}, 100 * r2 + c2, NONE);
        return way == NONE ? no(6) : yes(way);
    }

    private boolean isKeyOf(Walker x, int c, int r) {
        boolean asked = !(c == x.toX && r == x.toY) && !(c == x.x[0] && r == x.y[0]) && !(c == x.x[1] && r == x.y[1]);
        return asked && wayOf(now, x, 100 * r + c) == NONE;
    }

    long keys(int w) {
        if (!now.isWalker(w)) {
            return no(1);
        }
        int many = 0;
        for (int r = 0; r < now.deep; r++) {
            for (int c = 0; c < now.wide; c++) {
                many += isKeyOf(now.walkers.get(w), c, r) ? 1 : 0;
            }
        }
        return yes(many);
    }

    long isKey(int w, int c, int r) {
        return now.isWalker(w) && now.isCell(c, r) ? yes(isKeyOf(now.walkers.get(w), c, r) ? 1 : 0) : no(1);
    }

    /** All crossings, as {moments, skin, pole, row, column}; the first step is NONE for none. */
    private void allCrossings(World from, int w, int left, int spent, int[] first, List<int[]> found) {
        Walker x = from.walkers.get(w);
        if (x.fallen) {
            return;
        }
        if (x.isHome()) {
            found.add(new int[] {spent, from.skinOfAll(), first == null ? NONE : first[0],
                first == null ? NONE : first[1], first == null ? NONE : first[2]});
            return;
        }
        if (left == 0) {
            return;
        }
        for (int p = 0; p < 2; p++) {
            for (int r = 0; r < from.deep; r++) {
                for (int c = 0; c < from.wide; c++) {
                    if (from.inReach(x, p, c, r)) {
                        World then = from.copy();
                        int took = then.doStep(then.walkers.get(w), p, c, r);
                        int[] firstStep = first == null ? new int[] {p, r, c} : first;
                        allCrossings(then, w, left - 1, spent + took, firstStep, found);
                    }
                }
            }
        }
    }

    private int[] crossing(int w, int n, boolean sparing) {
        List<int[]> found = new ArrayList<>();
        allCrossings(now, w, n, 0, null, found);
        found.sort((a, b) -> {
            int by = sparing ? b[1] - a[1] : a[0] - b[0];
            for (int i = 2; i < 5 && by == 0; i++) {
                by = a[i] - b[i];
            }
            return by;
        });
        return found.isEmpty() ? null : found.get(0);
    }

    long cross(int w, int n, boolean sparing, int what) {
        if (!now.isWalker(w) || n < 1 || n > 3 || what < NONE || what > 2) {
            return no(1);
        }
        if (now.walkers.get(w).fallen) {
            return no(7);
        }
        int[] best = crossing(w, n, sparing);
        if (best == null || what >= 0 && best[2] == NONE) {
            return no(6);
        }
        return yes(what == NONE ? best[sparing ? 1 : 0] : what == 0 ? best[2] : what == 1 ? best[4] : best[3]);
    }

    /** The fewest planks by rising numbers: which cells are reached with so many, cell sets by flood. */
    private int planksOf(Walker x) {
        int cells = now.wide * now.deep;
        int[] cost = new int[cells];
        Arrays.fill(cost, 1000);
        cost[x.y[0] * now.wide + x.x[0]] = 0;
        cost[x.y[1] * now.wide + x.x[1]] = 0;
        boolean[] settled = new boolean[cells];
        for (int round = 0; round < cells; round++) {
            int here = NONE;
            for (int i = 0; i < cells; i++) {
                if (!settled[i] && (here == NONE || cost[i] < cost[here])) {
                    here = i;
                }
            }
            settled[here] = true;
            for (int i = 0; i < cells; i++) {
                if (far(i % now.wide, i / now.wide, here % now.wide, here / now.wide) <= x.reach) {
                    int more = now.spots[i / now.wide][i % now.wide].firm ? 0 : 1;
                    cost[i] = Math.min(cost[i], cost[here] + more);
                }
            }
        }
        return cost[x.toY * now.wide + x.toX];
    }

    long planks(int w) {
        return now.isWalker(w) ? yes(planksOf(now.walkers.get(w))) : no(1);
    }

    long mostPlanks() {
        int most = NONE;
        for (Walker x : now.walkers) {
            most = Math.max(most, planksOf(x));
        }
        return most == NONE ? no(6) : yes(most);
    }

    // ---- races

    private int worth(World world, int w) {
        Walker x = world.walkers.get(w);
        int way = wayOf(world, x, NONE);
        return x.fallen ? 50 : way == NONE ? 40 : way;
    }

    /** {what it comes to, pole, row, column}; the first of the two wants it great. */
    private int[] playRace(World from, int first, int second, int turn, int turns) {
        if (turn == turns) {
            return new int[] {worth(from, second) - worth(from, first), NONE, NONE, NONE};
        }
        int mover = turn % 2 == 0 ? first : second;
        int sign = turn % 2 == 0 ? 1 : -1;
        int[] best = null;
        Walker x = from.walkers.get(mover);
        for (int p = 0; p < 2 && !x.fallen; p++) {
            for (int r = 0; r < from.deep; r++) {
                for (int c = 0; c < from.wide; c++) {
                    if (from.inReach(x, p, c, r)) {
                        World then = from.copy();
                        then.doStep(then.walkers.get(mover), p, c, r);
                        int value = playRace(then, first, second, turn + 1, turns)[0];
                        if (best == null || sign * value > sign * best[0]) {
                            best = new int[] {value, p, r, c};
                        }
                    }
                }
            }
        }
        int value = playRace(from, first, second, turn + 1, turns)[0];
        if (best == null || sign * value > sign * best[0]) {
            best = new int[] {value, NONE, NONE, NONE};
        }
        return best;
    }

    long race(int w, int o, int turns, int what) {
        if (!now.isWalker(w) || !now.isWalker(o) || w == o || turns < 1 || turns > 3 || what < NONE || what > 2) {
            return no(1);
        }
        int[] best = playRace(now, w, o, 0, turns);
        if (what >= 0 && best[1] == NONE) {
            return no(6);
        }
        return yes(what == NONE ? best[0] : what == 0 ? best[1] : what == 1 ? best[3] : best[2]);
    }

    // ---- holes

    long gone(int r) {
        if (r < 0 || r >= now.deep) {
            return no(1);
        }
        int sum = 0;
        for (Spot s : now.spots[r]) {
            sum += s.firm ? 0 : s.whole - s.skin;
        }
        return yes(sum);
    }

    private void allTracks(int w, int crossed, long[] sums, long[] want, List<Integer> found) {
        if (w == now.walkers.size()) {
            if (Arrays.equals(sums, want)) {
                found.add(crossed);
            }
            return;
        }
        allTracks(w + 1, crossed, sums, want, found);
        for (int r = 0; r < now.deep; r++) {
            sums[r] += now.walkers.get(w).burden();
            allTracks(w + 1, crossed | 1 << w, sums, want, found);
            sums[r] -= now.walkers.get(w).burden();
        }
    }

    long tracks(int t, boolean sure) {
        if (t < 0 || t > 3) {
            return no(1);
        }
        if (trays[t] == null) {
            return no(2);
        }
        if (trays[t].length < now.deep) {
            return no(3);
        }
        List<Integer> found = new ArrayList<>();
        allTracks(0, 0, new long[now.deep], Arrays.copyOf(trays[t], now.deep), found);
        if (!sure) {
            return yes(found.size());
        }
        int set = (1 << now.walkers.size()) - 1;
        for (int crossed : found) {
            set &= crossed;
        }
        return found.isEmpty() ? no(6) : yes(set);
    }

    private void fraction(long a, long b) {
        long divisor = b;
        while (a % divisor != 0 || b % divisor != 0) {
            divisor--;
        }
        top = a / divisor;
        bottom = b / divisor;
    }

    private long[] luckOf(int r) {
        long a = 1;
        long b = 1;
        for (Spot s : now.spots[r]) {
            if (!s.firm) {
                a *= s.odds;
                b *= 16;
            }
        }
        return new long[] {a, b};
    }

    long luck(int r) {
        if (r < 0 || r >= now.deep) {
            return nay(1);
        }
        long[] luck = luckOf(r);
        long a = luck[0];
        long b = luck[1];
        while (a != 0 && a % 2 == 0 && b % 2 == 0) {
            a /= 2;
            b /= 2;
        }
        top = a;
        bottom = a == 0 ? 1 : b;
        return yes(1);
    }

    long luckiest() {
        int best = NONE;
        for (int r = 0; r < now.deep; r++) {
            if (best == NONE || luckOf(r)[0] * luckOf(best)[1] > luckOf(best)[0] * luckOf(r)[1]) {
                best = r;
            }
        }
        return best == NONE ? no(6) : yes(best);
    }

    long copyRow(int r, int t) {
        if (r < 0 || r >= now.deep || t < 0 || t > 3) {
            return no(1);
        }
        if (trays[t] == null) {
            return no(2);
        }
        if (trays[t].length < now.wide) {
            return no(3);
        }
        for (int c = 0; c < now.wide; c++) {
            trays[t][c] = now.spots[r][c].skin;
        }
        return yes(now.wide);
    }

    // ---- mornings

    private int s;
    private int done;
    private int[] told;

    private int draw(int n) {
        s = (int) ((s * 3037L + 11257L) % 65536L);
        return s / 8 % n;
    }

    private void walk(List<Node> nodes) {
        for (Node node : nodes) {
            if (done == 300) {
                told[4] = 1;
                throw new Halt();
            }
            done++;
            walkOne(node);
        }
    }

    private void walkOne(Node node) {
        boolean missed = false;
        switch (node.word) {
            case "step":
                missed = !morningStep(node.a, node.b, node.c, node.d);
                break;
            case "stand":
                if (now.moment + node.a > 9999) {
                    missed = true;
                } else {
                    for (int i = 0; i < node.a; i++) {
                        now.moment(null, 0);
                        told[1]++;
                    }
                }
                break;
            case "hand":
                Walker a = now.walkers.get(node.a);
                Walker b = now.walkers.get(node.b);
                missed = !now.canHand(a, b, node.c);
                if (!missed) {
                    a.load -= node.c;
                    b.load += node.c;
                }
                break;
            case "any":
                int p = draw(2);
                int d = draw(4);
                Walker w = now.walkers.get(node.a);
                int c = w.x[1 - p] + new int[] {1, 0, -1, 0}[d];
                int r = w.y[1 - p] + new int[] {0, 1, 0, -1}[d];
                missed = !morningStep(node.a, p, c, r);
                break;
            case "when":
                if (isTrue(node)) {
                    walk(node.body);
                }
                break;
            case "loop":
                for (int i = 0; i < node.a; i++) {
                    walk(node.body);
                }
                break;
            default:
                throw new Halt();
        }
        told[0] += missed ? 1 : 0;
    }

    private boolean morningStep(int w, int p, int c, int r) {
        Walker x = now.walkers.get(w);
        if (!now.isCell(c, r) || x.fallen || !now.inReach(x, p, c, r) || now.moment + 1 + x.sunk[p] / 2 > 9999) {
            return false;
        }
        told[1] += now.doStep(x, p, c, r);
        told[2] += x.fallen ? 0 : 1;
        return true;
    }

    private boolean isTrue(Node node) {
        if (node.test.equals("fallen")) {
            return now.walkers.get(node.a).fallen;
        }
        if (node.test.equals("home")) {
            return now.walkers.get(node.a).isHome();
        }
        int skin = now.spots[node.b][node.a].skin;
        return node.sign == '<' ? skin < node.c : node.sign == '>' ? skin > node.c : skin == node.c;
    }

    private void goThrough(int seed) {
        s = seed;
        done = 0;
        told = new int[5];
        int before = 0;
        for (Walker x : now.walkers) {
            before += x.fallen ? 1 : 0;
        }
        try {
            walk(now.mornings);
        } catch (Halt h) {
            // The stop, or the three hundredth step.
        }
        for (Walker x : now.walkers) {
            told[3] += x.fallen ? 1 : 0;
        }
        told[3] -= before;
    }

    long live(int seed) {
        if (seed < 0 || seed > 9999) {
            return no(1);
        }
        if (now.mornings == null) {
            return no(6);
        }
        goThrough(seed);
        lived = told;
        return yes(done);
    }

    long lived(int what) {
        if (what < 0 || what > 4) {
            return no(1);
        }
        return lived == null ? no(6) : yes(lived[what]);
    }

    long mean(int seed, int many) {
        if (seed < 0 || many < 1 || many > 20 || (long) seed + many - 1 > 9999) {
            return nay(1);
        }
        if (now.mornings == null) {
            return nay(6);
        }
        World kept = now;
        long sum = 0;
        for (int i = 0; i < many; i++) {
            now = kept.copy();
            goThrough(seed + i);
            sum += now.skinOfAll();
        }
        now = kept;
        fraction(sum, many);
        return yes(1);
    }

    // ---- marks

    long mark() {
        if (marks.size() == 3) {
            return no(4);
        }
        marks.add(now.copy());
        return yes(marks.size());
    }

    long undo() {
        if (marks.isEmpty()) {
            return no(6);
        }
        now = marks.remove(marks.size() - 1);
        return yes(marks.size());
    }
}
