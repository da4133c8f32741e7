/** Terms, ==== 5.: STATUS, and what it says of a refused call; "What it is": 512 calls. One method for each sentence. */
final class EdgeTerms5Tests {
    private static final String FIRM = "marsh 3 by 2 skin 0 soft 9 deep 9; firm 0 0; firm 1 0; walker a at 0 0 to 1 0 weight 3 load 4;"
        + "walker b at 2 1 to 1 0 weight 20 long 1 load 3; walker c at 1 0 to 1 0 weight 1 load 19;";

    private EdgeTerms5Tests() {
    }

    public static void main(String[] args) {
        calls512();
        trays();
        pours();
        texts();
        deeds();
        deedsLate();
        asks();
        holes();
        mornings();
        refusedTexts();
        withoutStatus();
        noneOrFalse();
        Check.close("EdgeTerms5Tests");
    }

    private static void calls512() {
        // 25 feeds and a marsh are 26 calls; then rounds of three calls, in the last of which the 512th comes.
        String text = FIRM + " ".repeat(500 - FIRM.length());
        StiltMarsh x = new StiltMarsh();
        Check.feed(x, text);
        Check.due("What it is, at most 512 calls: marsh", x.marsh(500), 3);
        int calls = 26;
        for (int round = 1; calls + 3 <= 510; round++) {
            Check.due("What it is, at most 512 calls: mark", x.mark(), 1);
            Check.due("What it is, at most 512 calls: stand", x.stand(round % 99 + 1), 2);
            Check.due("What it is, at most 512 calls: undo", x.undo(), 0);
            calls += 3;
        }
        for (; calls < 511; calls++) {
            Check.due("What it is, at most 512 calls: step", x.step(0, 0, 0, 0), 1);
        }
        Check.due("What it is, at most 512 calls: the 512th", x.walker(0, 7), 2);
    }

    private static Edge set() {
        return new Edge("Terms 5, STATUS of a call is the first of these that holds");
    }

    private static void trays() {
        Edge e = set().onNew().after("tray", 1, 0, 2);
        e.no(1, "tray", 4, 4, 61).no(1, "read", 4, -1).no(1, "write", -1, -1, 0).no(2, "read", 0, -1).no(2, "write", 0, 60, 0);
        e.no(3, "read", 1, 2).no(3, "read", 1, -1).no(3, "write", 1, 2, 0).no(3, "write", 1, -1, 0).no(3, "read", 1, Integer.MIN_VALUE).no(3, "read", 1, Integer.MAX_VALUE);
    }

    private static void pours() {
        Edge e = new Edge("Terms 5 and Promise 8, (1: below 0, too; 2; 8; 3; asked in this order)").onNew();
        e.after("tray", 0, 0, 2).after("tray", 1, 1, 2).after("tray", 2, 0, 3);
        // All of 1 and 2, 8, 3; of 2 and 8, 3; of 8 and 3; of 3 alone; none.
        e.no(1, "pour", 4, 0, 3, 0, 99).no(1, "pour", 3, -1, 1, 0, 99).no(1, "pour", 3, 0, 1, -1, 99).no(1, "pour", 3, 0, 1, 0, -1).no(1, "pour", 0, -1, 1, 0, 99);
        e.no(1, "pour", 0, 0, -1, 0, 0).no(2, "pour", 3, 0, 1, 0, 99).no(2, "pour", 0, 99, 3, 0, 99).no(2, "pour", 3, 0, 3, 0, 0);
        e.no(8, "pour", 0, 0, 1, 0, 99).no(8, "pour", 1, 0, 0, 0, 0).no(8, "pour", 0, 99, 1, 99, 0);
        e.no(3, "pour", 0, 0, 2, 0, 3).no(3, "pour", 2, 0, 0, 0, 3).yes(1, "pour", 0, 0, 2, 0, 2).yes(1, "pour", 0, 2, 2, 3, 0);
    }

    private static void texts() {
        Edge e = set().on(FIRM).fed("?" + " ".repeat(339));
        e.no(1, "marsh", -1).no(1, "marsh", 341).no(1, "mornings", -1).no(1, "mornings", 341).no(1, "mornings", 301).no(1, "mornings", 340);
        e.thenNo(9, "mornings", 300).thenNo(1, "marsh", 1);
        e.on(FIRM).fed("?").thenNo(9, "marsh", 20).thenNo(1, "marsh", 1).then(0, "marsh", 0);
    }

    private static void deeds() {
        Edge e = set().on(FIRM).after("stand", 1);
        // b is FALLEN: 1 comes ahead of 7.
        e.no(1, "step", 1, 2, 2, 1).no(1, "step", 1, 0, 3, 1).no(1, "step", 1, 0, 2, 2).no(7, "step", 1, 0, 2, 1).no(7, "step", 0, 0, 2, 1);
        e.no(1, "hand", 1, 1, 1).no(1, "hand", 1, 0, 21).no(1, "hand", 1, 0, 0).no(1, "hand", 1, 3, 1).no(7, "hand", 1, 0, 1).no(7, "hand", 0, 1, 1).no(7, "hand", 0, 2, 2);
        e.no(1, "rise", 0, 3, 0).no(1, "rise", 3, 0, 0).no(7, "rise", 0, 2, 0).no(1, "pack", 1, 21).no(1, "pack", 1, -1).no(7, "pack", 1, 20);
        e.no(1, "plank", 3, 0).no(7, "plank", 0, 0).no(1, "rot", 0, 2).no(7, "rot", 2, 0).no(1, "pierce", -1, 0).no(7, "pierce", 1, 0);
    }

    private static void deedsLate() {
        Edge e = set().on(FIRM).till(9999);
        // 1 ahead of 4, 4 ahead of 7.
        e.no(1, "stand", 0).no(1, "stand", 100).no(4, "stand", 1).no(4, "stand", 99);
        e.no(1, "step", 3, 0, 0, 0).no(1, "step", 0, 2, 0, 0).no(1, "step", 0, 0, 3, 0).no(4, "step", 0, 0, 0, 0).no(4, "step", 0, 0, 2, 1).no(4, "step", 1, 0, 2, 1);
        // What takes no MOMENT can be done still.
        e.yes(20, "hand", 0, 2, 1).yes(3, "plank", 2, 0).yes(1, "rise", 1, 0, 0).yes(4, "pack", 0, 0).yes(0, "pierce", 2, 0);
    }

    private static void asks() {
        Edge e = set().on(FIRM).after("stand", 1);
        for (String call : new String[] {"soonest", "sparing"}) {
            // 1 ahead of 7 and 6; a FALLEN one has no CROSSING either, the promise tells 7 for him.
            e.no(1, call, 1, 0).no(1, call, 1, 4).no(1, call, 3, 3).no(7, call, 1, 3).no(6, call, 0, 1);
            e.no(1, call + "At", 1, 3, 3).no(1, call + "At", 1, 3, -1).no(1, call + "At", 1, 4, 0).no(1, call + "At", 0, 1, 3).no(7, call + "At", 1, 3, 2);
            e.no(6, call + "At", 0, 1, 0).no(6, call + "At", 2, 3, 0).no(1, call + "At", 2, 3, 3);
        }
        e.no(1, "raced", 1, 0, 1, 3).no(1, "raced", 1, 1, 1, 0).no(1, "raced", 1, 0, 4, 0).no(6, "raced", 1, 0, 1, 0);
        e.no(1, "isKey", 3, 0, 0).no(1, "isKey", 0, 3, 0).no(1, "fallsIn", 3).no(6, "fallsIn", 0);
    }

    private static void holes() {
        Edge e = set().on(FIRM).after("tray", 0, 0, 1).after("tray", 1, 0, 2).after("write", 0, 0, 99).after("write", 1, 0, 99);
        // Too few numbers come ahead of "there is no way".
        e.no(1, "tracks", 4).no(2, "tracks", 3).no(3, "tracks", 0).yes(0, "tracks", 1);
        e.no(1, "sure", -1).no(2, "sure", 3).no(3, "sure", 0).no(6, "sure", 1);
        e.no(1, "copyRow", 2, 3).no(1, "copyRow", -1, 0).no(1, "copyRow", 2, 4).no(1, "copyRow", 0, 4).no(2, "copyRow", 0, 3).no(3, "copyRow", 0, 1);
        e.onNew().no(6, "luckiest").no(6, "mostPlanks").no(1, "luck", 0).no(1, "gone", 0);
    }

    private static void mornings() {
        Edge e = set().on(FIRM);
        e.no(1, "live", 10000).no(6, "live", 0).no(1, "lived", 5).no(6, "lived", 0).no(1, "mean", 9999, 2).no(1, "mean", 0, 0).no(6, "mean", 9999, 1).no(6, "undo");
    }

    private static void refusedTexts() {
        Edge e = new Edge("Terms 5, changes nothing else (but marsh(), mornings() with 9 the tape, and what fault() tells)");
        e.on(FIRM).mornings("stand 1;").after("mark").after("stand", 2).after("live", 3).after("tray", 0, 1, 3).after("luck", 1).fed("?");
        e.faulty(1, 0, "?").faultyMornings(1, 0, "?");
        e.thenNo(9, "marsh", 1).tells(1, "fault", 0).tells(0, "fault", 1).tells(1, "top").tells(8, "bottom").tells(20, "feed", 0, 0, 0, 0, 0);
        e.then(3, "told", 4).then(1, "lived", 1).then(1, "live", 3).then(0, "read", 0, 2).then(0, "undo").then(0, "told", 4).then(1, "live", 3);
    }

    private static void withoutStatus() {
        Edge e = new Edge("Terms 5, status(), top(), bottom(), feed(), fault() have none");
        e.on(FIRM).yes(9, "cell", 0, 0, 3).tells(0, "status").tells(0, "top").tells(1, "bottom").tells(20, "feed", 1, 2, 3, 4, 5).tells(0, "fault", 0).tells(-1, "fault", 7);
        e.thenNo(1, "cell", 0, 0, 7).tells(1, "status").tells(1, "status").tells(0, "top").tells(1, "bottom").tells(40, "feed", 1, 2, 3, 4, 5).tells(-1, "fault", 1);
        e.thenNo(6, "undo").tells(6, "status").tells(-1, "fault", -1).tells(6, "status");
        e.on(FIRM).fed(" ".repeat(900)).thenNo(7, "rot", 2, 0).tells(-1, "feed", 1, 2, 3, 4, 5).tells(7, "status").then(0, "marsh", 900).tells(0, "status");
    }

    private static void noneOrFalse() {
        Edge e = new Edge("Terms 5, With another STATUS than 0 a call gives NONE, or false").onNew();
        // On an object of no CELLS nearly all calls are refused; nothing changes by any of them.
        Object[][] calls = {{"write", 2, 0, 0, 0}, {"pour", 2, 0, 0, 0, 0, 0}, {"rot", 1, 0, 0}, {"rise", 1, 0, 0, 0}, {"send", 1, 0, 0, 0}, {"weather", 1, 10},
            {"luck", 1, 0}, {"mean", 6, 0, 1}, {"read", 2, 0, 0}, {"marsh", 1, 1}, {"mornings", 1, 1}, {"told", 1, 11}, {"cell", 1, 0, 0, 0}, {"walker", 1, 0, 0},
            {"pole", 1, 0, 0, 0}, {"step", 1, 0, 0, 0, 0}, {"stand", 1, 0}, {"hand", 1, 0, 1, 1}, {"plank", 1, 0, 0}, {"pack", 1, 0, 0}, {"pierce", 1, 0, 0},
            {"far", 1, 0, 0, 0, 0}, {"burden", 1, 0}, {"pull", 1, 0, 0}, {"choices", 1, 0, 0}, {"bears", 1, 0, 0, 0}, {"weakest", 1, 0}, {"sunkIn", 1, 0, 0, 0},
            {"fallsIn", 1, 0}, {"skinIn", 1, 0, 0, 0}, {"helpers", 1, 0}, {"way", 1, 0}, {"wayFrom", 1, 0, 0, 0, 0, 0}, {"keys", 1, 0}, {"isKey", 1, 0, 0, 0},
            {"soonest", 1, 0, 1}, {"soonestAt", 1, 0, 1, 0}, {"sparing", 1, 0, 1}, {"sparingAt", 1, 0, 1, 0}, {"planks", 1, 0}, {"mostPlanks", 6}, {"race", 1, 0, 1, 1},
            {"raced", 1, 0, 1, 1, 0}, {"gone", 1, 0}, {"tracks", 2, 0}, {"sure", 2, 0}, {"luckiest", 6}, {"copyRow", 1, 0, 0}, {"live", 6, 0}, {"lived", 6, 0}, {"undo", 6}};
        for (Object[] call : calls) {
            long[] arguments = new long[call.length - 2];
            for (int i = 0; i < arguments.length; i++) {
                arguments[i] = (Integer) call[i + 2];
            }
            e.no((Integer) call[1], (String) call[0], arguments);
        }
    }
}
