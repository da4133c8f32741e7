import java.util.Arrays;

/**
 * Walkers who cross a marsh on stilts. ../shared/DOC.md promises what each call does and answers;
 * the words of that document (cell, skin, pole, sunk, ..) are used here as it uses them.
 */
public final class StiltMarsh {
    public static final int NONE = -1;

    private static final int FINE = 0;
    private static final int NO_SUCH = 1;
    private static final int TRAY_MISSING = 2;
    private static final int TOO_FEW = 3;
    private static final int TOO_MANY = 4;
    private static final int THERE_IS_NONE = 6;
    private static final int CAN_NOT_BE = 7;
    private static final int UNLIKE_SORTS = 8;
    private static final int FAULTY = 9;

    private static final int TAPE_MOST = 900;
    private static final int MORNINGS_MOST = 300;
    private static final int FEED_BYTES = 20;
    private static final int FORESEEN_MOST = 99;
    private static final int LOAD_MOST = 20;
    private static final int MENDS_MOST = 9;
    private static final int MARKS_MOST = 3;
    private static final int TURNS_MOST = 3;
    private static final int SEED_MOST = 9999;
    private static final int MEAN_MOST = 20;
    private static final int SIXTEENTHS = 16;

    private int status;
    private long top;
    private long bottom;
    private int tapeLength;
    private int faultKind;
    private int faultPlace;
    private int markCount;
    private boolean hasLived;
    private final byte[] tape;
    private final int[] lived;
    private final Trays trays;
    private final State now;
    private final State scratch;
    private final State[] marks;
    private final Scanner scanner;
    private final MarshReader marshReader;
    private final MorningsReader morningsReader;
    private final Search search;
    private final Living living;

    public StiltMarsh() {
        bottom = 1;
        faultKind = NONE;
        faultPlace = NONE;
        tape = new byte[TAPE_MOST];
        lived = new int[Living.WHATS];
        trays = new Trays();
        now = new State();
        scratch = new State();
        marks = new State[MARKS_MOST];
        for (int i = 0; i < MARKS_MOST; i++) {
            marks[i] = new State();
        }
        scanner = new Scanner();
        marshReader = new MarshReader(scanner, scratch);
        morningsReader = new MorningsReader(scanner, now, scratch.program);
        search = new Search(now);
        living = new Living(now);
    }

    public int status() {
        return status;
    }

    public long top() {
        return top;
    }

    public long bottom() {
        return bottom;
    }

    // ---- TRAYS

    public boolean tray(int tray, int sort, int many) {
        if (!trays.isTray(tray) || sort < 0 || sort >= Trays.SORTS || many < 0 || many > Trays.LONGEST) {
            return refuse(NO_SUCH);
        }
        trays.makeNew(tray, sort, many);
        return agree();
    }

    public boolean write(int tray, int place, long v) {
        int why = trays.whyNoPlace(tray, place);
        if (why != FINE) {
            return refuse(why);
        }
        trays.put(tray, place, v);
        return agree();
    }

    public long read(int tray, int place) {
        int why = trays.whyNoPlace(tray, place);
        if (why != FINE) {
            return fail(why);
        }
        status = FINE;
        return trays.numberAt(tray, place);
    }

    public boolean pour(int from, int place, int to, int at, int many) {
        if (!trays.isTray(from) || !trays.isTray(to) || place < 0 || at < 0 || many < 0) {
            return refuse(NO_SUCH);
        }
        if (trays.isMissing(from) || trays.isMissing(to)) {
            return refuse(TRAY_MISSING);
        }
        if (!trays.areAlike(from, to)) {
            return refuse(UNLIKE_SORTS);
        }
        if (!trays.hasRun(from, place, many) || !trays.hasRun(to, at, many)) {
            return refuse(TOO_FEW);
        }
        trays.copyRun(from, place, to, at, many);
        return agree();
    }

    // ---- texts

    public int feed(int a, int b, int c, int d, int e) {
        if (tapeLength > TAPE_MOST - FEED_BYTES) {
            return NONE;
        }
        putOnTape(a);
        putOnTape(b);
        putOnTape(c);
        putOnTape(d);
        putOnTape(e);
        return tapeLength;
    }

    public int marsh(int n) {
        if (n < 0 || n > tapeLength) {
            return fail(NO_SUCH);
        }
        scanner.open(tape, n);
        marshReader.readAll();
        if (!closeTape()) {
            return fail(FAULTY);
        }
        now.copyFrom(scratch);
        return answer(now.folk.count);
    }

    public int mornings(int n) {
        if (n < 0 || n > tapeLength || n > MORNINGS_MOST) {
            return fail(NO_SUCH);
        }
        scanner.open(tape, n);
        morningsReader.readAll();
        if (!closeTape()) {
            return fail(FAULTY);
        }
        now.program.copyFrom(scratch.program);
        return answer(now.program.steps);
    }

    public int fault(int what) {
        if (what == 0) {
            return faultKind;
        }
        return what == 1 ? faultPlace : NONE;
    }

    public int told(int what) {
        Land land = now.land;
        Stance stance = now.stance;
        switch (what) {
            case 0: return answer(land.wide);
            case 1: return answer(land.rows);
            case 2: return answer(now.folk.count);
            case 3: return answer(land.mends);
            case 4: return answer(stance.moment);
            case 5: return answer(stance.fallen);
            case 6: return answer(stance.homeSet());
            case 7: return answer(stance.allSkin());
            case 8: return answer(stance.brokenCells());
            case 9: return answer(Integer.bitCount(land.firm));
            case 10: return answer(now.folk.allLoad());
            default: return fail(NO_SUCH);
        }
    }

    public int cell(int column, int row, int what) {
        Land land = now.land;
        int c = land.cellAt(column, row);
        if (c == NONE) {
            return fail(NO_SUCH);
        }
        switch (what) {
            case 0: return answer(now.stance.skin[c]);
            case 1: return answer(land.whole[c]);
            case 2: return answer(land.soft[c]);
            case 3: return answer(land.depth[c]);
            case 4: return answer(land.odds[c]);
            case 5: return answer(land.isFirm(c) ? 1 : 0);
            case 6: return answer(now.stance.polesIn(c));
            default: return fail(NO_SUCH);
        }
    }

    public int walker(int walker, int what) {
        Folk folk = now.folk;
        if (!folk.has(walker)) {
            return fail(NO_SUCH);
        }
        switch (what) {
            case 0: return answer(folk.weight[walker]);
            case 1: return answer(folk.reach[walker]);
            case 2: return answer(folk.length[walker]);
            case 3: return answer(folk.load[walker]);
            case 4: return answer(now.land.columnOf(folk.goal[walker]));
            case 5: return answer(now.land.rowOf(folk.goal[walker]));
            case 6: return answer(now.stance.isFallen(walker) ? 1 : 0);
            case 7: return answer(folk.steps[walker]);
            default: return fail(NO_SUCH);
        }
    }

    public int pole(int walker, int pole, int what) {
        if (!now.folk.has(walker) || !isPole(pole)) {
            return fail(NO_SUCH);
        }
        Stance stance = now.stance;
        int stilt = 2 * walker + pole;
        switch (what) {
            case 0: return answer(now.land.columnOf(stance.at[stilt]));
            case 1: return answer(now.land.rowOf(stance.at[stilt]));
            case 2: return answer(stance.sunk[stilt]);
            default: return fail(NO_SUCH);
        }
    }

    // ---- what is done

    public int step(int walker, int pole, int column, int row) {
        int c = now.land.cellAt(column, row);
        if (!now.folk.has(walker) || !isPole(pole) || c == NONE) {
            return fail(NO_SUCH);
        }
        if (!now.stance.hasTimeFor(now.stance.pullOf(2 * walker + pole))) {
            return fail(TOO_MANY);
        }
        if (!now.mayStep(walker, pole, c)) {
            return fail(CAN_NOT_BE);
        }
        return answer(now.takeStep(walker, pole, c));
    }

    public int stand(int moments) {
        if (moments < 1 || moments > FORESEEN_MOST) {
            return fail(NO_SUCH);
        }
        if (!now.stance.hasTimeFor(moments)) {
            return fail(TOO_MANY);
        }
        int before = now.stance.fallen;
        now.stance.standFor(moments);
        return answer(now.stance.fallen & ~before);
    }

    public int hand(int walker, int other, int load) {
        if (!isPair(walker, other) || load < 1 || load > LOAD_MOST) {
            return fail(NO_SUCH);
        }
        if (!now.mayHand(walker, other, load)) {
            return fail(CAN_NOT_BE);
        }
        now.handOver(walker, other, load);
        return answer(now.folk.load[other]);
    }

    public int plank(int column, int row) {
        Land land = now.land;
        int c = land.cellAt(column, row);
        if (c == NONE) {
            return fail(NO_SUCH);
        }
        if (land.isFirm(c)) {
            return fail(CAN_NOT_BE);
        }
        land.makeFirm(c);
        return answer(Integer.bitCount(land.firm));
    }

    public boolean rot(int column, int row) {
        Land land = now.land;
        int c = land.cellAt(column, row);
        if (c == NONE) {
            return refuse(NO_SUCH);
        }
        if (!land.isFirm(c)) {
            return refuse(CAN_NOT_BE);
        }
        land.makeSoft(c);
        now.stance.skin[c] = land.whole[c];
        return agree();
    }

    public boolean rise(int walker, int column, int row) {
        int c = now.land.cellAt(column, row);
        if (!now.folk.has(walker) || c == NONE) {
            return refuse(NO_SUCH);
        }
        if (!now.stance.isFallen(walker)) {
            return refuse(CAN_NOT_BE);
        }
        now.stance.placeBoth(walker, c);
        return agree();
    }

    public int pack(int walker, int load) {
        if (!now.folk.has(walker) || load < 0 || load > LOAD_MOST) {
            return fail(NO_SUCH);
        }
        if (now.stance.isFallen(walker)) {
            return fail(CAN_NOT_BE);
        }
        int before = now.folk.load[walker];
        now.folk.load[walker] = load;
        return answer(before);
    }

    public boolean send(int walker, int column, int row) {
        int c = now.land.cellAt(column, row);
        if (!now.folk.has(walker) || c == NONE) {
            return refuse(NO_SUCH);
        }
        now.folk.goal[walker] = c;
        return agree();
    }

    public boolean weather(int mends) {
        if (mends < 0 || mends > MENDS_MOST) {
            return refuse(NO_SUCH);
        }
        now.land.mends = mends;
        return agree();
    }

    public int pierce(int column, int row) {
        int c = now.land.cellAt(column, row);
        if (c == NONE) {
            return fail(NO_SUCH);
        }
        if (now.land.isFirm(c)) {
            return fail(CAN_NOT_BE);
        }
        int before = now.stance.skin[c];
        now.stance.skin[c] = 0;
        return answer(before);
    }

    // ---- what would be

    public int far(int column, int row, int toColumn, int toRow) {
        int from = now.land.cellAt(column, row);
        int to = now.land.cellAt(toColumn, toRow);
        if (from == NONE || to == NONE) {
            return fail(NO_SUCH);
        }
        return answer(now.land.apart(from, to));
    }

    public int burden(int walker) {
        if (!now.folk.has(walker)) {
            return fail(NO_SUCH);
        }
        return answer(now.folk.burdenOf(walker));
    }

    public int pull(int walker, int pole) {
        if (!now.folk.has(walker) || !isPole(pole)) {
            return fail(NO_SUCH);
        }
        return answer(now.stance.pullOf(2 * walker + pole));
    }

    public int choices(int walker, int pole) {
        if (!now.folk.has(walker) || !isPole(pole)) {
            return fail(NO_SUCH);
        }
        int many = 0;
        for (int c = 0; c < now.land.cells; c++) {
            if (now.mayStep(walker, pole, c)) {
                many++;
            }
        }
        return answer(many);
    }

    public int bears(int walker, int column, int row) {
        int c = now.land.cellAt(column, row);
        if (!now.folk.has(walker) || c == NONE) {
            return fail(NO_SUCH);
        }
        return answer(now.stance.holdsFor(walker, c));
    }

    public int weakest(int walker) {
        if (!now.folk.has(walker)) {
            return fail(NO_SUCH);
        }
        int best = 0;
        int least = FORESEEN_MOST + 1;
        for (int c = 0; c < now.land.cells; c++) {
            int held = now.stance.holdsFor(walker, c);
            if (held < least) {
                least = held;
                best = c;
            }
        }
        return answer(100 * now.land.rowOf(best) + now.land.columnOf(best));
    }

    public int sunkIn(int walker, int pole, int moments) {
        if (!now.folk.has(walker) || !isPole(pole) || moments < 0 || moments > FORESEEN_MOST) {
            return fail(NO_SUCH);
        }
        return answer(search.foresee(moments).sunk[2 * walker + pole]);
    }

    public int fallsIn(int walker) {
        if (!now.folk.has(walker)) {
            return fail(NO_SUCH);
        }
        int moments = search.momentsTillFallen(walker, FORESEEN_MOST);
        return moments == NONE ? fail(THERE_IS_NONE) : answer(moments);
    }

    public int skinIn(int column, int row, int moments) {
        int c = now.land.cellAt(column, row);
        if (c == NONE || moments < 0 || moments > FORESEEN_MOST) {
            return fail(NO_SUCH);
        }
        return answer(search.foresee(moments).skin[c]);
    }

    public int helpers(int walker) {
        if (!now.folk.has(walker)) {
            return fail(NO_SUCH);
        }
        int set = 0;
        for (int w = 0; w < now.folk.count; w++) {
            if (w != walker && now.canTouch(w, walker)) {
                set |= 1 << w;
            }
        }
        return answer(set);
    }

    // ---- ways

    public int way(int walker) {
        if (!now.folk.has(walker)) {
            return fail(NO_SUCH);
        }
        return answer(now.stance.stepsHome(walker));
    }

    public int wayFrom(int walker, int column, int row, int toColumn, int toRow) {
        int from = now.land.cellAt(column, row);
        int to = now.land.cellAt(toColumn, toRow);
        if (!now.folk.has(walker) || from == NONE || to == NONE) {
            return fail(NO_SUCH);
        }
        int apart = now.land.apart(from, to);
        return answer(Stance.fewestSteps(apart, apart, now.folk.reach[walker]));
    }

    public int keys(int walker) {
        if (!now.folk.has(walker)) {
            return fail(NO_SUCH);
        }
        return answer(Integer.bitCount(search.keySet(walker)));
    }

    public int isKey(int walker, int column, int row) {
        int c = now.land.cellAt(column, row);
        if (!now.folk.has(walker) || c == NONE) {
            return fail(NO_SUCH);
        }
        return answer(search.keySet(walker) >>> c & 1);
    }

    public int soonest(int walker, int n) {
        int why = whyNoCrossing(walker, n, false);
        return why != FINE ? fail(why) : answer(-search.best);
    }

    public int soonestAt(int walker, int n, int what) {
        return crossingAt(walker, n, what, false);
    }

    public int sparing(int walker, int n) {
        int why = whyNoCrossing(walker, n, true);
        return why != FINE ? fail(why) : answer(search.best);
    }

    public int sparingAt(int walker, int n, int what) {
        return crossingAt(walker, n, what, true);
    }

    public int planks(int walker) {
        if (!now.folk.has(walker)) {
            return fail(NO_SUCH);
        }
        return answer(search.fewestPlanks(walker));
    }

    public int mostPlanks() {
        if (now.folk.count == 0) {
            return fail(THERE_IS_NONE);
        }
        int most = 0;
        for (int w = 0; w < now.folk.count; w++) {
            most = Math.max(most, search.fewestPlanks(w));
        }
        return answer(most);
    }

    // ---- races

    public int race(int walker, int other, int turns) {
        if (!isPair(walker, other) || turns < 1 || turns > TURNS_MOST) {
            return fail(NO_SUCH);
        }
        search.runRace(walker, other, turns);
        return answer(search.best);
    }

    public int raced(int walker, int other, int turns, int what) {
        if (!isPair(walker, other) || turns < 1 || turns > TURNS_MOST || !isStepWhat(what)) {
            return fail(NO_SUCH);
        }
        search.runRace(walker, other, turns);
        return answerFirstStep(what);
    }

    // ---- holes

    public int gone(int row) {
        if (!now.land.hasRow(row)) {
            return fail(NO_SUCH);
        }
        return answer(now.stance.skinGone(row));
    }

    public int tracks(int tray) {
        int why = trays.whyNotHas(tray, now.land.rows);
        if (why != FINE) {
            return fail(why);
        }
        search.countTracks(trays, tray);
        return answer(search.ways);
    }

    public int sure(int tray) {
        int why = trays.whyNotHas(tray, now.land.rows);
        if (why != FINE) {
            return fail(why);
        }
        search.countTracks(trays, tray);
        return search.ways == 0 ? fail(THERE_IS_NONE) : answer(search.sureSet);
    }

    public boolean luck(int row) {
        if (!now.land.hasRow(row)) {
            return refuse(NO_SUCH);
        }
        long all = 1;
        for (int i = 0; i < now.land.wide; i++) {
            all *= SIXTEENTHS;
        }
        tellFraction(now.land.oddsOfRow(row), all);
        return agree();
    }

    public int luckiest() {
        if (now.land.rows == 0) {
            return fail(THERE_IS_NONE);
        }
        int best = 0;
        for (int row = 1; row < now.land.rows; row++) {
            if (now.land.oddsOfRow(row) > now.land.oddsOfRow(best)) {
                best = row;
            }
        }
        return answer(best);
    }

    public int copyRow(int row, int tray) {
        if (!now.land.hasRow(row)) {
            return fail(NO_SUCH);
        }
        int why = trays.whyNotHas(tray, now.land.wide);
        if (why != FINE) {
            return fail(why);
        }
        for (int column = 0; column < now.land.wide; column++) {
            int c = now.land.cellAt(column, row);
            if (c != NONE) {
                trays.put(tray, column, now.stance.skin[c]);
            }
        }
        return answer(now.land.wide);
    }

    // ---- MORNINGS

    public int live(int seed) {
        if (seed < 0 || seed > SEED_MOST) {
            return fail(NO_SUCH);
        }
        if (!now.program.there) {
            return fail(THERE_IS_NONE);
        }
        living.follow(seed);
        living.tellInto(lived);
        hasLived = true;
        return answer(living.done);
    }

    public int lived(int what) {
        if (what < 0 || what >= Living.WHATS) {
            return fail(NO_SUCH);
        }
        return hasLived ? answer(lived[what]) : fail(THERE_IS_NONE);
    }

    public boolean mean(int seed, int many) {
        if (many < 1 || many > MEAN_MOST || seed < 0 || seed > SEED_MOST - (many - 1)) {
            return refuse(NO_SUCH);
        }
        if (!now.program.there) {
            return refuse(THERE_IS_NONE);
        }
        scratch.copyFrom(now);
        long sum = 0;
        for (int i = 0; i < many; i++) {
            living.follow(seed + i);
            sum += now.stance.allSkin();
            now.copyFrom(scratch);
        }
        tellFraction(sum, many);
        return agree();
    }

    // ---- MARKS

    public int mark() {
        if (markCount >= MARKS_MOST) {
            return fail(TOO_MANY);
        }
        marks[markCount].copyFrom(now);
        markCount++;
        return answer(markCount);
    }

    public int undo() {
        if (markCount < 1 || markCount > MARKS_MOST) {
            return fail(THERE_IS_NONE);
        }
        markCount--;
        now.copyFrom(marks[markCount]);
        return answer(markCount);
    }

    // ---- what the calls share

    private int answer(int value) {
        status = FINE;
        return value;
    }

    private int fail(int why) {
        status = why;
        return NONE;
    }

    private boolean agree() {
        status = FINE;
        return true;
    }

    private boolean refuse(int why) {
        status = why;
        return false;
    }

    private static boolean isPole(int pole) {
        return pole == 0 || pole == 1;
    }

    private static boolean isStepWhat(int what) {
        return what >= 0 && what <= 2;
    }

    private boolean isPair(int walker, int other) {
        return now.folk.has(walker) && now.folk.has(other) && walker != other;
    }

    private void putOnTape(int four) {
        for (int shift = 24; shift >= 0 && tapeLength < TAPE_MOST; shift -= 8) {
            tape[tapeLength] = (byte) (four >>> shift);
            tapeLength++;
        }
    }

    /** The tape is empty behind a text that was read, sound or not; whether it was sound. */
    private boolean closeTape() {
        tapeLength = 0;
        faultKind = scanner.faultKind;
        faultPlace = scanner.faultPlace;
        return faultKind == 0;
    }

    private int whyNoCrossing(int walker, int n, boolean sparing) {
        if (!now.folk.has(walker) || n < 1 || n > TURNS_MOST) {
            return NO_SUCH;
        }
        if (now.stance.isFallen(walker)) {
            return CAN_NOT_BE;
        }
        return search.findCrossing(walker, n, sparing) ? FINE : THERE_IS_NONE;
    }

    private int crossingAt(int walker, int n, int what, boolean sparing) {
        if (!isStepWhat(what)) {
            return fail(NO_SUCH);
        }
        int why = whyNoCrossing(walker, n, sparing);
        return why != FINE ? fail(why) : answerFirstStep(what);
    }

    private int answerFirstStep(int what) {
        if (search.bestPole == NONE) {
            return fail(THERE_IS_NONE);
        }
        if (what == 0) {
            return answer(search.bestPole);
        }
        return answer(what == 1 ? now.land.columnOf(search.bestCell) : now.land.rowOf(search.bestCell));
    }

    private void tellFraction(long above, long below) {
        long a = above;
        long b = below;
        // Euclid's rests shrink at least by half each second time, so 64 rounds would do.
        for (int round = 0; round < 1000 && a > 0; round++) {
            long rest = b % a;
            b = a;
            a = rest;
        }
        long divisor = Math.max(1, b);
        top = above / divisor;
        bottom = below / divisor;
    }

    /** Rows of numbers that the caller fills and asks for. */
    private static final class Trays {
        static final int MANY = 4;
        static final int LONGEST = 60;
        static final int SORTS = 4;

        /** Tray by tray, LONGEST places for each, so that a pour is one arraycopy. */
        final long[] numbers = new long[MANY * LONGEST];
        final int[] sorts = new int[MANY];
        final int[] sizes = new int[MANY];

        Trays() {
            Arrays.fill(sizes, NONE);
        }

        boolean isTray(int tray) {
            return tray >= 0 && tray < MANY;
        }

        boolean isMissing(int tray) {
            return !isTray(tray) || sizes[tray] == NONE;
        }

        boolean areAlike(int tray, int other) {
            return isTray(tray) && isTray(other) && sorts[tray] == sorts[other];
        }

        boolean hasRun(int tray, int place, int many) {
            return isTray(tray) && place >= 0 && many >= 0 && (long) place + many <= sizes[tray];
        }

        int whyNoPlace(int tray, int place) {
            if (!isTray(tray)) {
                return NO_SUCH;
            }
            if (isMissing(tray)) {
                return TRAY_MISSING;
            }
            return place >= 0 && place < sizes[tray] ? FINE : TOO_FEW;
        }

        int whyNotHas(int tray, int many) {
            if (!isTray(tray)) {
                return NO_SUCH;
            }
            if (isMissing(tray)) {
                return TRAY_MISSING;
            }
            return sizes[tray] >= many ? FINE : TOO_FEW;
        }

        void makeNew(int tray, int sort, int many) {
            if (!isTray(tray) || many < 0 || many > LONGEST) {
                return;
            }
            sorts[tray] = sort;
            sizes[tray] = many;
            Arrays.fill(numbers, tray * LONGEST, (tray + 1) * LONGEST, 0L);
        }

        void put(int tray, int place, long v) {
            if (hasRun(tray, place, 1)) {
                numbers[tray * LONGEST + place] = cutTo(sorts[tray], v);
            }
        }

        long numberAt(int tray, int place) {
            return hasRun(tray, place, 1) ? numbers[tray * LONGEST + place] : NONE;
        }

        void copyRun(int from, int place, int to, int at, int many) {
            if (hasRun(from, place, many) && hasRun(to, at, many)) {
                System.arraycopy(numbers, from * LONGEST + place, numbers, to * LONGEST + at, many);
            }
        }

        private static long cutTo(int sort, long v) {
            switch (sort) {
                case 0: return (byte) v;
                case 1: return (short) v;
                case 2: return (int) v;
                default: return v;
            }
        }
    }

    /** The ground. A cell's number is its row times the width and its column, so cells go by row, then column. */
    private static final class Land {
        static final int CELLS_MOST = 30;
        static final int WIDE_MOST = 6;
        static final int ROWS_MOST = 5;
        static final int USUAL_ODDS = 8;

        int wide;
        int rows;
        int cells;
        int mends;
        /** One bit a cell. */
        int firm;
        final int[] columns = new int[CELLS_MOST];
        final int[] rowsOf = new int[CELLS_MOST];
        final int[] whole = new int[CELLS_MOST];
        final int[] soft = new int[CELLS_MOST];
        final int[] depth = new int[CELLS_MOST];
        final int[] odds = new int[CELLS_MOST];

        void clear() {
            wide = 0;
            rows = 0;
            cells = 0;
            mends = 0;
            firm = 0;
        }

        void layOut(int newWide, int newRows, int skin, int softness, int deep) {
            if (newWide < 1 || newWide > WIDE_MOST || newRows < 1 || newRows > ROWS_MOST) {
                return;
            }
            wide = newWide;
            rows = newRows;
            cells = newWide * newRows;
            for (int c = 0; c < CELLS_MOST; c++) {
                columns[c] = c % newWide;
                rowsOf[c] = c / newWide;
            }
            Arrays.fill(whole, skin);
            Arrays.fill(soft, softness);
            Arrays.fill(depth, deep);
            Arrays.fill(odds, USUAL_ODDS);
        }

        void copyFrom(Land other) {
            wide = other.wide;
            rows = other.rows;
            cells = other.cells;
            mends = other.mends;
            firm = other.firm;
            System.arraycopy(other.columns, 0, columns, 0, CELLS_MOST);
            System.arraycopy(other.rowsOf, 0, rowsOf, 0, CELLS_MOST);
            System.arraycopy(other.whole, 0, whole, 0, CELLS_MOST);
            System.arraycopy(other.soft, 0, soft, 0, CELLS_MOST);
            System.arraycopy(other.depth, 0, depth, 0, CELLS_MOST);
            System.arraycopy(other.odds, 0, odds, 0, CELLS_MOST);
        }

        boolean hasRow(int row) {
            return row >= 0 && row < rows;
        }

        boolean has(int c) {
            return c >= 0 && c < cells;
        }

        int cellAt(int column, int row) {
            return column >= 0 && column < wide && hasRow(row) ? row * wide + column : NONE;
        }

        int columnOf(int c) {
            return has(c) ? columns[c] : NONE;
        }

        int rowOf(int c) {
            return has(c) ? rowsOf[c] : NONE;
        }

        int apart(int a, int b) {
            if (a < 0 || a >= cells || b < 0 || b >= cells) {
                return CELLS_MOST;
            }
            int across = columns[a] - columns[b];
            int along = rowsOf[a] - rowsOf[b];
            return (across < 0 ? -across : across) + (along < 0 ? -along : along);
        }

        boolean isFirm(int c) {
            return (firm >>> c & 1) != 0;
        }

        void makeFirm(int c) {
            firm |= 1 << c;
        }

        void makeSoft(int c) {
            firm &= ~(1 << c);
        }

        /** In sixteenths of sixteenths .., once for each cell: firm ones hold by all sixteen. */
        long oddsOfRow(int row) {
            long product = 1;
            for (int column = 0; column < wide; column++) {
                int c = cellAt(column, row);
                if (c != NONE) {
                    product *= isFirm(c) ? SIXTEENTHS : odds[c];
                }
            }
            return product;
        }
    }

    /** The walkers, but for where they stand. */
    private static final class Folk {
        static final int MOST = 4;

        int count;
        final long[] names = new long[MOST];
        final int[] weight = new int[MOST];
        final int[] reach = new int[MOST];
        final int[] length = new int[MOST];
        final int[] load = new int[MOST];
        final int[] goal = new int[MOST];
        final int[] steps = new int[MOST];

        void copyFrom(Folk other) {
            count = other.count;
            System.arraycopy(other.names, 0, names, 0, MOST);
            System.arraycopy(other.weight, 0, weight, 0, MOST);
            System.arraycopy(other.reach, 0, reach, 0, MOST);
            System.arraycopy(other.length, 0, length, 0, MOST);
            System.arraycopy(other.load, 0, load, 0, MOST);
            System.arraycopy(other.goal, 0, goal, 0, MOST);
            System.arraycopy(other.steps, 0, steps, 0, MOST);
        }

        boolean has(int w) {
            return w >= 0 && w < count;
        }

        int burdenOf(int w) {
            return has(w) ? weight[w] + load[w] : 0;
        }

        int allLoad() {
            int sum = 0;
            for (int w = 0; w < count; w++) {
                sum += load[w];
            }
            return sum;
        }

        int numberOf(long name) {
            for (int w = 0; w < count; w++) {
                if (names[w] == name) {
                    return w;
                }
            }
            return NONE;
        }

        void add(long name, int to, int heavy, int reaching, int poles, int carried) {
            if (count >= MOST) {
                return;
            }
            names[count] = name;
            goal[count] = to;
            weight[count] = heavy;
            reach[count] = reaching;
            length[count] = poles;
            load[count] = carried;
            steps[count] = 0;
            count++;
        }
    }

    /** How all stands at a moment. A stilt is one pole of one walker: twice the walker and the pole. */
    private static final class Stance {
        static final int STILTS_MOST = 8;
        static final int LAST_MOMENT = 9999;

        final Land land;
        final Folk folk;
        final int[] skin = new int[Land.CELLS_MOST];
        final int[] at = new int[STILTS_MOST];
        final int[] sunk = new int[STILTS_MOST];
        /** One bit a walker. */
        int fallen;
        int moment;

        Stance(Land land, Folk folk) {
            this.land = land;
            this.folk = folk;
        }

        void copyFrom(Stance other) {
            System.arraycopy(other.skin, 0, skin, 0, Land.CELLS_MOST);
            System.arraycopy(other.at, 0, at, 0, STILTS_MOST);
            System.arraycopy(other.sunk, 0, sunk, 0, STILTS_MOST);
            fallen = other.fallen;
            moment = other.moment;
        }

        void startWhole() {
            System.arraycopy(land.whole, 0, skin, 0, Land.CELLS_MOST);
            fallen = 0;
            moment = 0;
        }

        void placeBoth(int w, int c) {
            if (w < 0 || w >= Folk.MOST) {
                return;
            }
            setDown(2 * w, c);
            setDown(2 * w + 1, c);
            fallen &= ~(1 << w);
        }

        void setDown(int stilt, int c) {
            if (stilt >= 0 && stilt < STILTS_MOST) {
                at[stilt] = c;
                sunk[stilt] = 0;
            }
        }

        boolean isFallen(int w) {
            return (fallen >>> w & 1) != 0;
        }

        boolean hasTimeFor(int moments) {
            return moment + moments <= LAST_MOMENT;
        }

        int pullOf(int stilt) {
            return stilt >= 0 && stilt < STILTS_MOST ? 1 + sunk[stilt] / 2 : 1;
        }

        /** One moment goes by, while the stilt `air` (or none) is in the air: whether anything changed. */
        boolean goBy(int air) {
            boolean changed = false;
            int trodden = land.firm;
            for (int stilt = 0; stilt < 2 * folk.count; stilt++) {
                if (stilt == air) {
                    continue;
                }
                trodden |= 1 << at[stilt];
                if ((fallen >>> (stilt >> 1) & 1) == 0 && press(stilt, (stilt ^ 1) == air)) {
                    changed = true;
                }
            }
            if (land.mends > 0 && mendAllBut(trodden)) {
                changed = true;
            }
            if (moment < LAST_MOMENT) {
                moment++;
            }
            return changed;
        }

        /** A stilt bears for a moment: whether anything came of it. */
        private boolean press(int stilt, boolean alone) {
            int c = at[stilt];
            int w = stilt >> 1;
            if (c < 0 || c >= land.cells || (land.firm >>> c & 1) != 0) {
                return false;
            }
            int all = folk.weight[w] + folk.load[w];
            int bears = alone ? all : (all + 1) / 2;
            if (skin[c] > 0) {
                skin[c] = skin[c] > bears ? skin[c] - bears : 0;
                return true;
            }
            int deeper = sunk[stilt] + land.soft[c] * bears / 8;
            if (deeper > land.depth[c]) {
                deeper = land.depth[c];
            }
            if (deeper <= sunk[stilt]) {
                return false;
            }
            sunk[stilt] = deeper;
            if (deeper >= folk.length[w]) {
                fallen |= 1 << w;
            }
            return true;
        }

        private boolean mendAllBut(int left) {
            boolean changed = false;
            for (int c = 0; c < land.cells; c++) {
                if ((left >>> c & 1) == 0 && skin[c] < land.whole[c]) {
                    int more = skin[c] + land.mends;
                    skin[c] = more < land.whole[c] ? more : land.whole[c];
                    changed = true;
                }
            }
            return changed;
        }

        void standFor(int moments) {
            int until = Math.min(moment + moments, LAST_MOMENT);
            // Where a moment changes nothing, the next one does not either.
            boolean changes = true;
            for (int i = 0; i < moments && changes; i++) {
                changes = goBy(NONE);
            }
            moment = until;
        }

        /** A stilt is pulled out, till it is in the air for good or its walker falls: how many moments. */
        int lift(int stilt) {
            int pull = pullOf(stilt);
            int w = stilt >> 1;
            int gone = 0;
            while (gone < pull && (fallen >>> w & 1) == 0) {
                goBy(stilt);
                gone++;
            }
            return gone;
        }

        /** How many moments a cell would bear a walker on one pole ahead of the one in which he falls. */
        int holdsFor(int w, int c) {
            if (!folk.has(w) || !land.has(c) || land.isFirm(c)) {
                return FORESEEN_MOST;
            }
            int bears = folk.burdenOf(w);
            int skinLeft = skin[c];
            int deep = 0;
            for (int gone = 0; gone < FORESEEN_MOST; gone++) {
                if (skinLeft > 0) {
                    skinLeft = Math.max(0, skinLeft - bears);
                } else {
                    deep = Math.min(land.depth[c], deep + land.soft[c] * bears / 8);
                }
                if (deep >= folk.length[w]) {
                    return gone;
                }
            }
            return FORESEEN_MOST;
        }

        boolean isHome(int w) {
            return folk.has(w) && !isFallen(w) && at[2 * w] == folk.goal[w] && at[2 * w + 1] == folk.goal[w];
        }

        int homeSet() {
            int set = 0;
            for (int w = 0; w < folk.count; w++) {
                if (isHome(w)) {
                    set |= 1 << w;
                }
            }
            return set;
        }

        int stepsHome(int w) {
            if (!folk.has(w)) {
                return 0;
            }
            int goal = folk.goal[w];
            return fewestSteps(land.apart(at[2 * w], goal), land.apart(at[2 * w + 1], goal), folk.reach[w]);
        }

        /**
         * All cells are there, so the nearer pole's side needs as many strides as its way has reaches,
         * one pole ahead of the other, and one step more brings the pole behind to the goal.
         */
        static int fewestSteps(int apart, int otherApart, int reach) {
            if (apart == 0 && otherApart == 0) {
                return 0;
            }
            int stride = reach < 1 ? 1 : reach;
            int nearer = apart < otherApart ? apart : otherApart;
            return (nearer + stride - 1) / stride + 1;
        }

        int polesIn(int c) {
            int many = 0;
            for (int stilt = 0; stilt < 2 * folk.count; stilt++) {
                if (at[stilt] == c) {
                    many++;
                }
            }
            return many;
        }

        int allSkin() {
            int sum = 0;
            for (int c = 0; c < land.cells; c++) {
                if (!land.isFirm(c)) {
                    sum += skin[c];
                }
            }
            return sum;
        }

        int brokenCells() {
            int many = 0;
            for (int c = 0; c < land.cells; c++) {
                if (!land.isFirm(c) && skin[c] == 0) {
                    many++;
                }
            }
            return many;
        }

        int skinGone(int row) {
            int sum = 0;
            for (int column = 0; column < land.wide; column++) {
                int c = land.cellAt(column, row);
                if (c != NONE && !land.isFirm(c)) {
                    sum += land.whole[c] - skin[c];
                }
            }
            return sum;
        }
    }

    /** The mornings as a row of acts; an act is the number of its word, for a `when` that of its test. */
    private static final class Program {
        /** Thirty steps, each of which may have an end of its own. */
        static final int ACTS_MOST = 60;
        static final int STEPS_MOST = 30;

        boolean there;
        int steps;
        int size;
        final int[] act = new int[ACTS_MOST];
        final int[] first = new int[ACTS_MOST];
        final int[] second = new int[ACTS_MOST];
        final int[] third = new int[ACTS_MOST];
        /** Of a when, a loop: where its end is; of an end: where it began. */
        final int[] partner = new int[ACTS_MOST];

        void clear() {
            there = false;
            steps = 0;
            size = 0;
        }

        void copyFrom(Program other) {
            there = other.there;
            steps = other.steps;
            size = other.size;
            System.arraycopy(other.act, 0, act, 0, ACTS_MOST);
            System.arraycopy(other.first, 0, first, 0, ACTS_MOST);
            System.arraycopy(other.second, 0, second, 0, ACTS_MOST);
            System.arraycopy(other.third, 0, third, 0, ACTS_MOST);
            System.arraycopy(other.partner, 0, partner, 0, ACTS_MOST);
        }

        boolean has(int place) {
            return place >= 0 && place < size && place < ACTS_MOST;
        }

        /** Where the new act stands, or NONE if there is no room. */
        int add(int word, int one, int two, int three) {
            if (size >= ACTS_MOST) {
                return NONE;
            }
            act[size] = word;
            first[size] = one;
            second[size] = two;
            third[size] = three;
            partner[size] = size;
            size++;
            return size - 1;
        }

        void pair(int opening, int end) {
            if (has(opening) && has(end)) {
                partner[opening] = end;
                partner[end] = opening;
            }
        }
    }

    /** All that a mark keeps. */
    private static final class State {
        final Land land;
        final Folk folk;
        final Stance stance;
        final Program program;

        State() {
            land = new Land();
            folk = new Folk();
            stance = new Stance(land, folk);
            program = new Program();
        }

        void clear() {
            land.clear();
            folk.count = 0;
            program.clear();
        }

        void copyFrom(State other) {
            land.copyFrom(other.land);
            folk.copyFrom(other.folk);
            stance.copyFrom(other.stance);
            program.copyFrom(other.program);
        }

        boolean mayStep(int w, int pole, int c) {
            if (!folk.has(w) || !isPole(pole) || stance.isFallen(w)) {
                return false;
            }
            return land.apart(stance.at[2 * w + 1 - pole], c) <= folk.reach[w];
        }

        /** A step that may be is taken: how many moments went by. */
        int takeStep(int w, int pole, int c) {
            if (!folk.has(w) || !isPole(pole)) {
                return 0;
            }
            int gone = stance.lift(2 * w + pole);
            if (!stance.isFallen(w)) {
                stance.setDown(2 * w + pole, c);
                folk.steps[w]++;
            }
            return gone;
        }

        /** Whether both are up and some pole of one is in reach of some pole of the other. */
        boolean canTouch(int w, int other) {
            if (!folk.has(w) || !folk.has(other) || stance.isFallen(w) || stance.isFallen(other)) {
                return false;
            }
            int reach = Math.min(folk.reach[w], folk.reach[other]);
            for (int pole = 0; pole < 2; pole++) {
                for (int otherPole = 0; otherPole < 2; otherPole++) {
                    if (land.apart(stance.at[2 * w + pole], stance.at[2 * other + otherPole]) <= reach) {
                        return true;
                    }
                }
            }
            return false;
        }

        boolean mayHand(int w, int other, int load) {
            return w != other && canTouch(w, other)
                && folk.load[w] >= load && folk.load[other] + load <= LOAD_MOST;
        }

        void handOver(int w, int other, int load) {
            if (folk.has(w) && folk.has(other)) {
                folk.load[w] -= load;
                folk.load[other] += load;
            }
        }
    }

    /** Cuts a text into tokens, one ahead, and keeps its first fault; behind that it takes nothing more. */
    private static final class Scanner {
        static final int MARSH = 0;
        static final int BY = 1;
        static final int SKIN = 2;
        static final int SOFT = 3;
        static final int DEEP = 4;
        static final int MENDS = 5;
        static final int CELL = 6;
        static final int ODDS = 7;
        static final int FIRM = 8;
        static final int WALKER = 9;
        static final int AT = 10;
        static final int TO = 11;
        static final int WEIGHT = 12;
        static final int REACH = 13;
        static final int LONG = 14;
        static final int LOAD = 15;
        static final int STEP = 16;
        static final int STAND = 17;
        static final int HAND = 18;
        static final int ANY = 19;
        static final int WHEN = 20;
        static final int FALLEN = 21;
        static final int HOME = 22;
        static final int LOOP = 23;
        static final int END = 24;
        static final int STOP = 25;
        static final int WORDS_MANY = 26;
        static final String WORDS =
            "marsh by skin soft deep mends cell odds firm walker at to weight reach long load step stand hand any when fallen home loop end stop ";

        static final int NO_TOKEN = 1;
        static final int MISPLACED = 2;
        static final int NAME_FAULT = 3;
        static final int BAD_NUMBER = 4;
        static final int TOLD_ALREADY = 5;
        static final int ONE_MORE = 6;
        static final int TOO_DEEP = 7;

        static final int KIND_END = 0;
        static final int KIND_WORD = 1;
        static final int KIND_NUMBER = 2;
        static final int KIND_SIGN = 3;
        static final int KIND_BAD = 4;

        static final int LETTERS_MOST = 8;
        static final int DIGITS_MOST = 4;
        static final int LETTERS_BASE = 27;

        /** The own words, each as a number of its letters. */
        final long[] ownWords = new long[WORDS_MANY];
        byte[] text;
        int length;
        int next;
        int kind;
        int place;
        /** Of a word: its letters as one number, or NONE if it has too many; of a number, a sign: itself. */
        long value;
        int faultKind;
        int faultPlace;

        Scanner() {
            text = new byte[0];
            int word = 0;
            long letters = 0;
            for (int i = 0; i < WORDS.length(); i++) {
                char sign = WORDS.charAt(i);
                if (sign != ' ') {
                    letters = letters * LETTERS_BASE + (sign - 'a' + 1);
                } else if (word < WORDS_MANY) {
                    ownWords[word] = letters;
                    word++;
                    letters = 0;
                }
            }
        }

        void open(byte[] newText, int newLength) {
            text = newText;
            length = Math.min(newLength, newText.length);
            next = 0;
            faultKind = 0;
            faultPlace = NONE;
            advance();
        }

        boolean isSound() {
            return faultKind == 0;
        }

        boolean isAtEnd() {
            return kind == KIND_END;
        }

        /** The first fault is kept: of a token that is none the least kind, 1, comes ahead of all others. */
        void blame(int fault) {
            if (faultKind == 0) {
                faultKind = kind == KIND_BAD ? NO_TOKEN : fault;
                faultPlace = place;
            }
        }

        void advance() {
            while (next < length && (text[next] == ' ' || text[next] == '\n')) {
                next++;
            }
            place = next;
            value = 0;
            if (next >= length) {
                kind = KIND_END;
                return;
            }
            byte sign = text[next];
            if (sign >= 'a' && sign <= 'z') {
                scanWord();
            } else if (sign >= '0' && sign <= '9') {
                scanNumber();
            } else {
                kind = sign == ';' || sign == '<' || sign == '>' || sign == '=' ? KIND_SIGN : KIND_BAD;
                value = sign;
                next++;
            }
        }

        private void scanWord() {
            kind = KIND_WORD;
            while (next < length && text[next] >= 'a' && text[next] <= 'z') {
                if (next - place < LETTERS_MOST) {
                    value = value * LETTERS_BASE + (text[next] - 'a' + 1);
                }
                next++;
            }
            if (next - place > LETTERS_MOST) {
                value = NONE;
            }
        }

        private void scanNumber() {
            kind = KIND_NUMBER;
            while (next < length && text[next] >= '0' && text[next] <= '9') {
                if (next - place < DIGITS_MOST) {
                    value = value * 10 + (text[next] - '0');
                }
                next++;
            }
            if (next - place > DIGITS_MOST) {
                kind = KIND_BAD;
            }
        }

        /** Which of the own words the token is, or NONE. */
        int ownWord() {
            if (kind != KIND_WORD || faultKind != 0) {
                return NONE;
            }
            for (int word = 0; word < WORDS_MANY; word++) {
                if (ownWords[word] == value) {
                    return word;
                }
            }
            return NONE;
        }

        boolean isWord(int word) {
            return kind == KIND_WORD && faultKind == 0
                && word >= 0 && word < WORDS_MANY && ownWords[word] == value;
        }

        void takeWord(int word) {
            if (isWord(word)) {
                advance();
            } else {
                blame(MISPLACED);
            }
        }

        void takeSemicolon() {
            if (faultKind == 0 && kind == KIND_SIGN && value == ';') {
                advance();
            } else {
                blame(MISPLACED);
            }
        }

        /** The sign that compares, or NONE and a fault. */
        int takeCompares() {
            int sign = (int) value;
            if (faultKind != 0 || kind != KIND_SIGN || sign == ';') {
                blame(MISPLACED);
                return NONE;
            }
            advance();
            return sign;
        }

        /** The number, or NONE and a fault. */
        int takeNumber(int least, int most) {
            if (faultKind != 0 || kind != KIND_NUMBER) {
                blame(MISPLACED);
                return NONE;
            }
            int number = (int) value;
            if (number < least || number > most) {
                blame(BAD_NUMBER);
                return NONE;
            }
            advance();
            return number;
        }

        /** A number behind its word. */
        int takeAfter(int word, int least, int most) {
            takeWord(word);
            return takeNumber(least, most);
        }

        /** A number behind its word, or what holds without both. */
        int takePerhaps(int word, int least, int most, int without) {
            if (!isWord(word)) {
                return without;
            }
            advance();
            return takeNumber(least, most);
        }

        /** A cell by its column and row, or NONE and a fault. */
        int takeCell(Land land) {
            int column = takeNumber(0, land.wide - 1);
            int row = takeNumber(0, land.rows - 1);
            return land.cellAt(column, row);
        }

        /** Whether a name stands here; if not, that is a fault. */
        boolean isName() {
            if (faultKind != 0 || kind != KIND_WORD || value == NONE || ownWord() != NONE) {
                blame(MISPLACED);
                return false;
            }
            return true;
        }

        /** A name that nobody has yet, as a number, or NONE and a fault. */
        long takeNewName(Folk folk) {
            if (!isName()) {
                return NONE;
            }
            long name = value;
            if (folk.numberOf(name) != NONE) {
                blame(NAME_FAULT);
                return NONE;
            }
            advance();
            return name;
        }

        /** The walker who bears the name that stands here, or NONE and a fault. */
        int takeWalker(Folk folk) {
            if (!isName()) {
                return NONE;
            }
            int w = folk.numberOf(value);
            if (w == NONE) {
                blame(NAME_FAULT);
                return NONE;
            }
            advance();
            return w;
        }
    }

    /** Reads a marsh into a state of its own, so that the old one stays where there is a fault. */
    private static final class MarshReader {
        private static final int SKIN_MOST = 99;
        private static final int SOFT_MOST = 9;
        private static final int DEPTH_MOST = 30;
        private static final int ODDS_MOST = 16;
        private static final int WEIGHT_MOST = 20;
        private static final int REACH_MOST = 3;
        private static final int LENGTH_MOST = 30;
        private static final int USUAL_REACH = 1;
        private static final int USUAL_LENGTH = 10;

        private final Scanner scanner;
        private final State state;
        private boolean mendsTold;

        MarshReader(Scanner scanner, State state) {
            this.scanner = scanner;
            this.state = state;
        }

        void readAll() {
            state.clear();
            mendsTold = false;
            for (int parts = 0; parts < TAPE_MOST && scanner.isSound() && !scanner.isAtEnd(); parts++) {
                readPart();
            }
            state.stance.startWhole();
        }

        private void readPart() {
            int word = scanner.ownWord();
            if (word != Scanner.MARSH && state.land.cells == 0) {
                scanner.blame(Scanner.MISPLACED);
                return;
            }
            switch (word) {
                case Scanner.MARSH: readMarsh(); break;
                case Scanner.MENDS: readMends(); break;
                case Scanner.CELL: readCell(); break;
                case Scanner.FIRM: readFirm(); break;
                case Scanner.WALKER: readWalker(); break;
                default: scanner.blame(Scanner.MISPLACED); break;
            }
        }

        private void readMarsh() {
            if (state.land.cells > 0) {
                scanner.blame(Scanner.TOLD_ALREADY);
                return;
            }
            int wide = scanner.takeAfter(Scanner.MARSH, 1, Land.WIDE_MOST);
            int rows = scanner.takeAfter(Scanner.BY, 1, Land.ROWS_MOST);
            int skin = scanner.takeAfter(Scanner.SKIN, 0, SKIN_MOST);
            int soft = scanner.takeAfter(Scanner.SOFT, 0, SOFT_MOST);
            int deep = scanner.takeAfter(Scanner.DEEP, 0, DEPTH_MOST);
            scanner.takeSemicolon();
            if (scanner.isSound()) {
                state.land.layOut(wide, rows, skin, soft, deep);
            }
        }

        private void readMends() {
            if (mendsTold) {
                scanner.blame(Scanner.TOLD_ALREADY);
                return;
            }
            int mends = scanner.takeAfter(Scanner.MENDS, 0, MENDS_MOST);
            scanner.takeSemicolon();
            if (scanner.isSound()) {
                state.land.mends = mends;
                mendsTold = true;
            }
        }

        private void readCell() {
            Land land = state.land;
            scanner.takeWord(Scanner.CELL);
            int c = scanner.takeCell(land);
            if (c == NONE) {
                return;
            }
            int skin = scanner.takePerhaps(Scanner.SKIN, 0, SKIN_MOST, land.whole[c]);
            int soft = scanner.takePerhaps(Scanner.SOFT, 0, SOFT_MOST, land.soft[c]);
            int deep = scanner.takePerhaps(Scanner.DEEP, 0, DEPTH_MOST, land.depth[c]);
            int odds = scanner.takePerhaps(Scanner.ODDS, 0, ODDS_MOST, land.odds[c]);
            scanner.takeSemicolon();
            if (scanner.isSound()) {
                land.whole[c] = skin;
                land.soft[c] = soft;
                land.depth[c] = deep;
                land.odds[c] = odds;
            }
        }

        private void readFirm() {
            scanner.takeWord(Scanner.FIRM);
            int c = scanner.takeCell(state.land);
            scanner.takeSemicolon();
            if (scanner.isSound() && c != NONE) {
                state.land.makeFirm(c);
            }
        }

        private void readWalker() {
            Folk folk = state.folk;
            if (folk.count >= Folk.MOST) {
                scanner.blame(Scanner.ONE_MORE);
                return;
            }
            scanner.takeWord(Scanner.WALKER);
            long name = scanner.takeNewName(folk);
            scanner.takeWord(Scanner.AT);
            int from = scanner.takeCell(state.land);
            scanner.takeWord(Scanner.TO);
            int to = scanner.takeCell(state.land);
            int weight = scanner.takeAfter(Scanner.WEIGHT, 1, WEIGHT_MOST);
            int reach = scanner.takePerhaps(Scanner.REACH, 1, REACH_MOST, USUAL_REACH);
            int length = scanner.takePerhaps(Scanner.LONG, 1, LENGTH_MOST, USUAL_LENGTH);
            int load = scanner.takePerhaps(Scanner.LOAD, 0, LOAD_MOST, 0);
            scanner.takeSemicolon();
            if (scanner.isSound()) {
                state.stance.placeBoth(folk.count, from);
                folk.add(name, to, weight, reach, length, load);
            }
        }
    }

    /** Reads mornings for the walkers and the cells that are there now. */
    private static final class MorningsReader {
        private static final int OPEN_MOST = 3;
        private static final int STAND_MOST = 20;
        private static final int HAND_MOST = 20;
        private static final int LOOP_MOST = 99;
        private static final int SKIN_MOST = 99;

        private final Scanner scanner;
        private final State now;
        private final Program program;
        private final int[] open = new int[OPEN_MOST];
        private int openCount;

        MorningsReader(Scanner scanner, State now, Program program) {
            this.scanner = scanner;
            this.now = now;
            this.program = program;
        }

        void readAll() {
            program.clear();
            openCount = 0;
            for (int steps = 0; steps < MORNINGS_MOST && scanner.isSound() && !scanner.isAtEnd(); steps++) {
                if (scanner.isWord(Scanner.END)) {
                    readEnd();
                } else {
                    readStep();
                }
            }
            if (openCount > 0) {
                scanner.blame(Scanner.MISPLACED);
            }
            program.there = scanner.isSound();
        }

        private void readEnd() {
            if (openCount < 1 || openCount > OPEN_MOST) {
                scanner.blame(Scanner.MISPLACED);
                return;
            }
            scanner.takeWord(Scanner.END);
            scanner.takeSemicolon();
            openCount--;
            program.pair(open[openCount], program.add(Scanner.END, 0, 0, 0));
        }

        private void readStep() {
            int word = scanner.ownWord();
            if (!isStepWord(word)) {
                scanner.blame(Scanner.MISPLACED);
                return;
            }
            if (program.steps >= Program.STEPS_MOST) {
                scanner.blame(Scanner.ONE_MORE);
                return;
            }
            boolean opens = word == Scanner.WHEN || word == Scanner.LOOP;
            if (opens && openCount >= OPEN_MOST) {
                scanner.blame(Scanner.TOO_DEEP);
                return;
            }
            scanner.advance();
            int here = opens ? readOpening(word) : readPlain(word);
            scanner.takeSemicolon();
            program.steps++;
            if (opens) {
                open[openCount] = here;
                openCount++;
            }
        }

        private static boolean isStepWord(int word) {
            return word == Scanner.STEP || word == Scanner.STAND || word == Scanner.HAND || word == Scanner.ANY
                || word == Scanner.WHEN || word == Scanner.LOOP || word == Scanner.STOP;
        }

        private int readPlain(int word) {
            int one = 0;
            int two = 0;
            int three = 0;
            if (word == Scanner.STAND) {
                one = scanner.takeNumber(1, STAND_MOST);
            } else if (word != Scanner.STOP) {
                one = scanner.takeWalker(now.folk);
            }
            if (word == Scanner.STEP) {
                two = scanner.takeNumber(0, 1);
                three = scanner.takeCell(now.land);
            } else if (word == Scanner.HAND) {
                two = scanner.takeWalker(now.folk);
                three = scanner.takeNumber(1, HAND_MOST);
            }
            return program.add(word, one, two, three);
        }

        private int readOpening(int word) {
            if (word == Scanner.LOOP) {
                return program.add(word, scanner.takeNumber(1, LOOP_MOST), 0, 0);
            }
            int test = scanner.ownWord();
            if (test != Scanner.FALLEN && test != Scanner.HOME && test != Scanner.SKIN) {
                scanner.blame(Scanner.MISPLACED);
                return NONE;
            }
            scanner.advance();
            if (test != Scanner.SKIN) {
                return program.add(test, scanner.takeWalker(now.folk), 0, 0);
            }
            int c = scanner.takeCell(now.land);
            int compares = scanner.takeCompares();
            return program.add(test, c, compares, scanner.takeNumber(0, SKIN_MOST));
        }
    }

    /** Looks at what would be, on stances of its own: nothing of what is changes by it. */
    private static final class Search {
        private static final int LEVELS = 3;
        private static final int BEYOND = 1000000;
        private static final int FALLEN_WORTH = 50;

        private final State now;
        private final Land land;
        private final Folk folk;
        private final Stance[] levels;
        private final int[] costs = new int[Land.CELLS_MOST];
        private final int[] neighbours = new int[Land.CELLS_MOST];
        private final long[] sums = new long[Land.ROWS_MOST];
        private boolean sparesSkin;
        private int rowsLength;
        private int triedPole;
        private int triedCell;
        /** Of a crossing the more the better, of a race what it comes to. */
        int best;
        int bestPole;
        int bestCell;
        int ways;
        int sureSet;

        Search(State now) {
            this.now = now;
            land = now.land;
            folk = now.folk;
            levels = new Stance[LEVELS];
            for (int i = 0; i < LEVELS; i++) {
                levels[i] = new Stance(now.land, now.folk);
            }
        }

        Stance foresee(int moments) {
            Stance then = levels[0];
            then.copyFrom(now.stance);
            then.standFor(moments);
            return then;
        }

        int momentsTillFallen(int w, int most) {
            Stance then = levels[0];
            then.copyFrom(now.stance);
            for (int gone = 0; gone <= most; gone++) {
                if (then.isFallen(w)) {
                    return gone;
                }
                then.goBy(NONE);
            }
            return NONE;
        }

        // ---- crossings

        /** Whether there is a crossing; `best` is its moments below 0, or the skin that it leaves. */
        boolean findCrossing(int w, int n, boolean sparing) {
            sparesSkin = sparing;
            rowsLength = n;
            best = -BEYOND;
            bestPole = NONE;
            bestCell = NONE;
            if (now.stance.isHome(w)) {
                best = sparing ? now.stance.allSkin() : 0;
                return true;
            }
            if (now.stance.stepsHome(w) <= n) {
                cross(now.stance, w, n, 0);
            }
            return bestPole != NONE;
        }

        /** Tries all rows of at most `left` steps from a stance on, `spent` moments behind the first one. */
        private void cross(Stance from, int w, int left, int spent) {
            if (left < 1 || left > LEVELS) {
                return;
            }
            Stance here = levels[left - 1];
            for (int pole = 0; pole < 2; pole++) {
                int stilt = 2 * w + pole;
                here.copyFrom(from);
                // Where to the step goes changes nothing till the pole is down: one pull serves all cells.
                int moments = spent + here.lift(stilt);
                if (here.isFallen(w) || !sparesSkin && -moments <= best) {
                    continue;
                }
                for (int c = 0; c < land.cells; c++) {
                    if (land.apart(here.at[stilt ^ 1], c) <= folk.reach[w]) {
                        here.setDown(stilt, c);
                        if (left == rowsLength) {
                            triedPole = pole;
                            triedCell = c;
                        }
                        goOnCrossing(here, w, left - 1, moments);
                    }
                }
            }
        }

        private void goOnCrossing(Stance here, int w, int left, int moments) {
            int needed = here.stepsHome(w);
            if (needed == 0) {
                int score = sparesSkin ? here.allSkin() : -moments;
                if (score > best) {
                    best = score;
                    bestPole = triedPole;
                    bestCell = triedCell;
                }
            } else if (needed <= left) {
                cross(here, w, left, moments);
            }
        }

        // ---- races

        /** `best` is what the race comes to, `bestPole` NONE where the first one does best by nothing. */
        void runRace(int first, int second, int turns) {
            rowsLength = turns;
            bestPole = NONE;
            bestCell = NONE;
            best = outcome(now.stance, first, second, turns, -BEYOND, BEYOND);
        }

        /**
         * What a race comes to for who is next, if both do their best. The one who is next is sure of
         * `floor` elsewhere, the other one of no more than `ceiling`: what lies beyond need not be exact.
         */
        private int outcome(Stance from, int mover, int rival, int turns, int floor, int ceiling) {
            if (turns < 1 || turns > LEVELS) {
                return worth(from, rival) - worth(from, mover);
            }
            int reached = -BEYOND;
            for (int pole = 0; pole < 2 && reached < ceiling && !from.isFallen(mover); pole++) {
                reached = bestByPole(from, 2 * mover + pole, rival, turns, Math.max(floor, reached), ceiling, reached);
            }
            if (reached < ceiling) {
                int idle = -outcome(from, rival, mover, turns - 1, -ceiling, -Math.max(floor, reached));
                if (idle > reached) {
                    reached = idle;
                    if (turns == rowsLength) {
                        bestPole = NONE;
                    }
                }
            }
            return reached;
        }

        /** The best of `sofar` and of all steps by one stilt. */
        private int bestByPole(Stance from, int stilt, int rival, int turns, int floor, int ceiling, int sofar) {
            Stance here = levels[turns - 1];
            int mover = stilt >> 1;
            int reached = sofar;
            here.copyFrom(from);
            here.lift(stilt);
            boolean fell = here.isFallen(mover);
            for (int c = 0; c < land.cells && reached < ceiling; c++) {
                if (land.apart(here.at[stilt ^ 1], c) > folk.reach[mover]) {
                    continue;
                }
                if (!fell) {
                    here.setDown(stilt, c);
                }
                int value = -outcome(here, rival, mover, turns - 1, -ceiling, -Math.max(floor, reached));
                if (value > reached) {
                    reached = value;
                    if (turns == rowsLength) {
                        bestPole = stilt & 1;
                        bestCell = c;
                    }
                }
                if (fell) {
                    // Who falls stays where he stands, so each other cell would come to the same.
                    break;
                }
            }
            return reached;
        }

        private int worth(Stance stance, int w) {
            return stance.isFallen(w) ? FALLEN_WORTH : stance.stepsHome(w);
        }

        // ---- cells that matter

        int keySet(int w) {
            if (!folk.has(w)) {
                return 0;
            }
            findNeighbours(folk.reach[w]);
            int start = 1 << now.stance.at[2 * w] | 1 << now.stance.at[2 * w + 1];
            int goal = 1 << folk.goal[w];
            int set = 0;
            for (int c = 0; c < land.cells; c++) {
                int without = 1 << c;
                if ((without & (start | goal)) == 0 && !leadsTo(start, goal, without)) {
                    set |= without;
                }
            }
            return set;
        }

        private void findNeighbours(int reach) {
            for (int c = 0; c < land.cells; c++) {
                int set = 0;
                for (int other = 0; other < land.cells; other++) {
                    if (land.apart(c, other) <= reach) {
                        set |= 1 << other;
                    }
                }
                neighbours[c] = set;
            }
        }

        private boolean leadsTo(int start, int goal, int without) {
            int reached = start;
            int fresh = start;
            for (int round = 0; round < Land.CELLS_MOST && fresh != 0 && (reached & goal) == 0; round++) {
                int found = 0;
                for (int c = 0; c < land.cells; c++) {
                    if ((fresh >>> c & 1) != 0) {
                        found |= neighbours[c];
                    }
                }
                fresh = found & ~reached & ~without;
                reached |= fresh;
            }
            return (reached & goal) != 0;
        }

        /** The least cost of a way on which each cell that is not firm costs one plank. */
        int fewestPlanks(int w) {
            if (!folk.has(w) || !land.has(now.stance.at[2 * w]) || !land.has(now.stance.at[2 * w + 1])) {
                return 0;
            }
            findNeighbours(folk.reach[w]);
            Arrays.fill(costs, BEYOND);
            costs[now.stance.at[2 * w]] = 0;
            costs[now.stance.at[2 * w + 1]] = 0;
            boolean changed = true;
            for (int round = 0; round <= Land.CELLS_MOST && changed; round++) {
                changed = false;
                for (int c = 0; c < land.cells; c++) {
                    if (spreadFrom(c)) {
                        changed = true;
                    }
                }
            }
            return land.has(folk.goal[w]) ? costs[folk.goal[w]] : 0;
        }

        private boolean spreadFrom(int c) {
            boolean changed = false;
            for (int other = 0; other < land.cells; other++) {
                int cost = costs[c] + (land.isFirm(other) ? 0 : 1);
                if ((neighbours[c] >>> other & 1) != 0 && cost < costs[other]) {
                    costs[other] = cost;
                    changed = true;
                }
            }
            return changed;
        }

        // ---- tracks

        /** Counts the ways in which walkers can have crossed, and who crossed in all of them. */
        void countTracks(Trays trays, int tray) {
            ways = 0;
            sureSet = (1 << folk.count) - 1;
            int roads = land.rows + 1;
            int all = 1;
            for (int w = 0; w < folk.count; w++) {
                all *= roads;
            }
            for (int choice = 0; choice < all; choice++) {
                int crossed = sumUp(choice, roads);
                if (isAsTold(trays, tray)) {
                    ways++;
                    sureSet &= crossed;
                }
            }
        }

        /** One choice holds, as digits by `roads`, each walker's row, the last one standing for none: who crossed. */
        private int sumUp(int choice, int roads) {
            Arrays.fill(sums, 0L);
            int crossed = 0;
            int rest = choice;
            for (int w = 0; w < folk.count && roads > 0; w++) {
                int row = rest % roads;
                rest /= roads;
                if (row < land.rows) {
                    sums[row] += folk.burdenOf(w);
                    crossed |= 1 << w;
                }
            }
            return crossed;
        }

        private boolean isAsTold(Trays trays, int tray) {
            for (int row = 0; row < land.rows; row++) {
                if (sums[row] != trays.numberAt(tray, row)) {
                    return false;
                }
            }
            return true;
        }
    }

    /** Lives the mornings through, on what is now. */
    private static final class Living {
        static final int WHATS = 5;
        private static final int STEPS_MOST = 300;
        private static final int GUARD = 1000000;

        private final State now;
        private final Program program;
        private final int[] timesLeft = new int[Program.ACTS_MOST];
        private int draws;
        private int drawnPole;
        private int drawnCell;
        private int missed;
        private int moments;
        private int ended;
        private int fell;
        private int left;
        int done;

        Living(State now) {
            this.now = now;
            this.program = now.program;
        }

        void follow(int seed) {
            int momentBefore = now.stance.moment;
            int fallenBefore = now.stance.fallen;
            draws = seed;
            missed = 0;
            ended = 0;
            left = 0;
            done = 0;
            int here = 0;
            for (int guard = 0; guard < GUARD && program.has(here); guard++) {
                if (program.act[here] == Scanner.END) {
                    here = goBack(here);
                } else if (done >= STEPS_MOST) {
                    left = 1;
                    break;
                } else {
                    done++;
                    here = perform(here);
                }
            }
            moments = now.stance.moment - momentBefore;
            fell = Integer.bitCount(now.stance.fallen & ~fallenBefore);
        }

        void tellInto(int[] lived) {
            if (lived.length < WHATS) {
                return;
            }
            lived[0] = missed;
            lived[1] = moments;
            lived[2] = ended;
            lived[3] = fell;
            lived[4] = left;
        }

        /** Behind an end: into the loop again, or on. */
        private int goBack(int end) {
            int opening = program.partner[end];
            if (!program.has(opening) || program.act[opening] != Scanner.LOOP) {
                return end + 1;
            }
            timesLeft[opening]--;
            return timesLeft[opening] > 0 ? opening + 1 : end + 1;
        }

        /** Does one step of the text: where the next one stands. */
        private int perform(int here) {
            int one = program.first[here];
            int two = program.second[here];
            int three = program.third[here];
            boolean managed = true;
            switch (program.act[here]) {
                case Scanner.STEP: managed = tryStep(one, two, three); break;
                case Scanner.STAND: managed = tryStand(one); break;
                case Scanner.HAND: managed = tryHand(one, two, three); break;
                case Scanner.ANY: managed = drawStep(one) && tryStep(one, drawnPole, drawnCell); break;
                case Scanner.LOOP: timesLeft[here] = one; break;
                case Scanner.STOP: return program.size;
                default: return holds(here) ? here + 1 : program.partner[here] + 1;
            }
            if (!managed) {
                missed++;
            }
            return here + 1;
        }

        private boolean holds(int when) {
            int subject = program.first[when];
            if (program.act[when] == Scanner.FALLEN) {
                return now.stance.isFallen(subject);
            }
            if (program.act[when] == Scanner.HOME) {
                return now.stance.isHome(subject);
            }
            if (!now.land.has(subject)) {
                return false;
            }
            int skin = now.stance.skin[subject];
            int limit = program.third[when];
            switch (program.second[when]) {
                case '<': return skin < limit;
                case '>': return skin > limit;
                default: return skin == limit;
            }
        }

        private boolean tryStep(int w, int pole, int c) {
            if (!now.mayStep(w, pole, c) || !now.stance.hasTimeFor(now.stance.pullOf(2 * w + pole))) {
                return false;
            }
            now.takeStep(w, pole, c);
            if (!now.stance.isFallen(w)) {
                ended++;
            }
            return true;
        }

        private boolean tryStand(int many) {
            if (!now.stance.hasTimeFor(many)) {
                return false;
            }
            now.stance.standFor(many);
            return true;
        }

        private boolean tryHand(int w, int other, int load) {
            if (!now.mayHand(w, other, load)) {
                return false;
            }
            now.handOver(w, other, load);
            return true;
        }

        /** Both draws come first, whatever comes of them: whether they lead to a cell. */
        private boolean drawStep(int w) {
            drawnPole = draw(2);
            int side = draw(4);
            if (!now.folk.has(w)) {
                return false;
            }
            int beside = now.stance.at[2 * w + (drawnPole == 0 ? 1 : 0)];
            int column = now.land.columnOf(beside) + (side == 0 ? 1 : side == 2 ? -1 : 0);
            int row = now.land.rowOf(beside) + (side == 1 ? 1 : side == 3 ? -1 : 0);
            drawnCell = now.land.cellAt(column, row);
            return drawnCell != NONE;
        }

        private int draw(int by) {
            draws = (draws * 3037 + 11257) % 65536;
            return by > 0 ? draws / 8 % by : 0;
        }
    }
}
