/** Promises 1 to 16: a new object, TRAYS, texts. One method for each promise, with the sentence it is about. */
final class EdgePromises1To16Tests {
    private static final String LAND = "marsh 3 by 2 skin 6 soft 8 deep 9; mends 2; firm 2 1; cell 1 0 skin 0 soft 3 deep 4 odds 5;";
    private static final String TWO = LAND + "walker a at 0 0 to 2 1 weight 4 reach 2 load 5; walker b at 1 0 to 1 0 weight 16 long 3 load 7;";

    private EdgePromises1To16Tests() {
    }

    public static void main(String[] args) {
        promise1();
        promise1Own();
        promise2();
        promises3And4();
        promise5();
        promise6();
        promise7();
        promise8();
        promise8Itself();
        promise9();
        promise9Full();
        promise10();
        promise10Fault();
        promise11();
        promise12();
        promise13();
        promise13Sets();
        promise14();
        promise15();
        promise15Steps();
        promise16();
        Check.close("EdgePromises1To16Tests");
    }

    private static void promise1() {
        Edge e = new Edge("Promise 1: A MARSH of no CELLS, WALKERS; MENDS 0; MOMENT 0; no MORNINGS, MARKS; TRAYS are MISSING; an empty tape; 0 by 1; STATUS 0").onNew();
        e.tells(0, "status").tells(0, "top").tells(1, "bottom").tells(-1, "fault", 0).tells(-1, "fault", 1);
        for (int what = 0; what <= 10; what++) {
            e.yes(0, "told", what);
        }
        e.no(1, "cell", 0, 0, 0).no(1, "walker", 0, 0).no(1, "pole", 0, 0, 0).no(6, "live", 0).no(6, "undo").no(6, "lived", 0);
        e.no(2, "read", 0, 0).no(2, "read", 1, 0).no(2, "read", 2, 0).no(2, "read", 3, 0).no(1, "marsh", 1).no(1, "mornings", 1);
        e.yes(0, "marsh", 0).yes(0, "mornings", 0).yes(1, "mark").yes(0, "stand", 1).then(1, "told", 4).yes(1, "weather", 9).then(9, "told", 3);
        e.onNew().tells(20, "feed", 0, 0, 0, 0, 0);
    }

    private static void promise1Own() {
        // What one object holds is no other one's.
        StiltMarsh first = Check.marsh(TWO);
        first.tray(0, 3, 60);
        first.mark();
        first.feed(1, 2, 3, 4, 5);
        first.luck(0);
        first.stand(3);
        StiltMarsh second = new StiltMarsh();
        Check.due("Promise 1: a new object is new", second.told(0) + second.told(4) + second.top(), 0);
        Check.refused(second, "Promise 1: a new object is new", second.read(0, 0), 2);
        Check.refused(second, "Promise 1: a new object is new", second.undo(), 6);
        Check.due("Promise 1: a new object is new", second.feed(0, 0, 0, 0, 0), 20);
        second.stand(9);
        second.weather(9);
        Check.fine(first, "Promise 1: the old one is as it was", first.told(4), 3);
        Check.fine(first, "Promise 1: the old one is as it was", first.told(3), 2);
    }

    private static void promise2() {
        Edge e = new Edge("Promise 2: STATUS of the latest call that has one").on(TWO);
        e.yes(3, "told", 0).tells(0, "status").thenNo(1, "told", 11).tells(1, "status").tells(0, "top").tells(1, "status").then(2, "told", 1).tells(0, "status");
        e.thenNo(2, "read", 0, 0).tells(2, "status").then(1, "tray", 0, 0, 0).thenNo(3, "read", 0, 0).tells(3, "status").thenNo(6, "undo").tells(6, "status");
        e.thenNo(7, "rot", 0, 0).tells(7, "status").then(1, "mark").then(2, "mark").then(3, "mark").thenNo(4, "mark").tells(4, "status");
        e.then(1, "tray", 1, 1, 0).thenNo(8, "pour", 0, 0, 1, 0, 0).tells(8, "status").thenFed("?").tells(8, "status").thenNo(9, "marsh", 1).tells(9, "status");
    }

    private static void promises3And4() {
        Edge e = new Edge("Promises 3, 4: the FRACTION told latest; its bottom, above 0").on(TWO).mornings("stand 1;");
        e.yes(1, "luck", 0).tells(5, "top").tells(64, "bottom").thenNo(1, "luck", 2).tells(5, "top").tells(64, "bottom");
        e.thenNo(1, "mean", -1, 1).tells(5, "top").tells(64, "bottom").then(0, "told", 4).then(1, "mean", 0, 1).tells(1, "bottom");
        e.thenNo(1, "luck", -1).tells(1, "bottom").then(1, "luck", 1).tells(1, "top").tells(4, "bottom");
        // Other calls tell none: luckiest(), marsh(), undo() leave it.
        e.then(1, "luckiest").tells(1, "top").tells(4, "bottom").then(1, "mark").then(0, "undo").tells(4, "bottom").then(0, "marsh", 0).tells(1, "top").tells(4, "bottom");
    }

    private static void promise5() {
        Edge e = new Edge("Promise 5: A TRAY is a row of so many 0s (1)").onNew();
        e.ranges("tray", Edge.of(1, 1, 30), Edge.of(0, 3), Edge.of(0, 3), Edge.of(0, 60));
        e.after("tray", 1, 3, 60).after("write", 1, 0, 7).after("write", 1, 29, 7).after("write", 1, 59, 7);
        e.ranges("tray", Edge.of(1, 1, 30), Edge.of(0, 3), Edge.of(0, 3), Edge.of(0, 60));
        e.yes(1, "tray", 1, 3, 60).then(0, "read", 1, 0).then(0, "read", 1, 29).then(0, "read", 1, 59);
        e.yes(1, "tray", 1, 3, 1).then(0, "read", 1, 0).thenNo(3, "read", 1, 1).then(1, "tray", 1, 3, 60).then(0, "read", 1, 29).then(0, "read", 1, 59);
        e.yes(1, "tray", 1, 0, 60).then(1, "write", 1, 0, 128).then(-128, "read", 1, 0).then(1, "tray", 1, 1, 60).then(1, "write", 1, 0, 128).then(128, "read", 1, 0);
        e.yes(1, "tray", 0, 2, 60).then(7, "read", 1, 0).then(7, "read", 1, 59).then(1, "tray", 2, 2, 60).then(7, "read", 1, 0).then(7, "read", 1, 59);
    }

    private static void promise6() {
        Edge e = new Edge("Promise 6: A number comes to a place of a TRAY, cut to its sort (1, 2, 3)").onNew();
        for (int tray = 0; tray < 4; tray++) {
            e.onNew().after("tray", tray, 3 - tray, 3).no(1, "write", -1, 0, 5).no(1, "write", 4, 0, 5).no(2, "write", (tray + 1) % 4, 0, 5);
            e.no(3, "write", tray, 3, 5).no(3, "write", tray, -1, 5).no(3, "write", tray, Integer.MAX_VALUE, 5).no(3, "write", tray, Integer.MIN_VALUE, 5);
            for (int place = 0; place < 3; place++) {
                e.yes(1, "write", tray, place, 5).then(place == 0 ? 5 : 0, "read", tray, 0).then(place == 1 ? 5 : 0, "read", tray, 1).then(place == 2 ? 5 : 0, "read", tray, 2);
            }
        }
        // The last place of one tray is not the first of the next.
        e.onNew().after("tray", 0, 3, 60).after("tray", 1, 3, 60).yes(1, "write", 0, 59, 5).then(0, "read", 1, 0).then(1, "write", 1, 0, 6).then(5, "read", 0, 59);
        e.thenNo(3, "write", 0, 60, 9).then(6, "read", 1, 0);
    }

    private static void promise7() {
        Edge e = new Edge("Promise 7: The number in a place of a TRAY; STATUS tells NONE from -1 (1, 2, 3)").onNew().after("tray", 2, 1, 2).after("write", 2, 1, -1);
        e.yes(-1, "read", 2, 1).then(0, "read", 2, 0).thenNo(3, "read", 2, 2).then(-1, "read", 2, 1).thenNo(3, "read", 2, -1).thenNo(2, "read", 1, 0).thenNo(1, "read", 4, 0);
        e.no(1, "read", -1, 0).no(1, "read", 4, 0).no(2, "read", 3, 0).no(3, "read", 2, 2).no(3, "read", 2, -1);
    }

    /** Tray 0 holds 1 to 5, tray 1 has three places, tray 2 none; all of sort 2. */
    private static Edge poured(Edge e) {
        e.onNew().after("tray", 0, 2, 5).after("tray", 1, 2, 3).after("tray", 2, 2, 0);
        for (int i = 0; i < 5; i++) {
            e.after("write", 0, i, i + 1);
        }
        return e;
    }

    private static Edge holds(Edge e, int tray, long... numbers) {
        for (int i = 0; i < numbers.length; i++) {
            e.then(numbers[i], "read", tray, i);
        }
        return e.thenNo(3, "read", tray, numbers.length);
    }

    private static void promise8() {
        Edge e = poured(new Edge("Promise 8: So many numbers of a TRAY, from a place on, come to another one's place on (1: below 0, too; 2; 8; 3)"));
        holds(e.yes(1, "pour", 0, 0, 1, 0, 3), 1, 1, 2, 3);
        holds(e.yes(1, "pour", 0, 2, 1, 0, 3), 1, 3, 4, 5);
        holds(e.yes(1, "pour", 0, 4, 1, 2, 1), 1, 0, 0, 5);
        holds(e.yes(1, "pour", 1, 0, 0, 2, 3), 0, 1, 2, 0, 0, 0);
        // From a place on: its last numbers, one too many; onto a place on likewise.
        e.no(3, "pour", 0, 3, 1, 0, 3).no(3, "pour", 0, 5, 1, 0, 1).no(3, "pour", 0, 0, 1, 1, 3).no(3, "pour", 0, 0, 1, 3, 1).no(3, "pour", 0, 0, 1, 0, 4);
        // None at all: up to the place behind the last one, not farther.
        holds(e.yes(1, "pour", 0, 0, 1, 0, 0), 1, 0, 0, 0);
        e.yes(1, "pour", 0, 5, 1, 3, 0).yes(1, "pour", 2, 0, 2, 0, 0).yes(1, "pour", 2, 0, 0, 5, 0);
        e.no(3, "pour", 0, 6, 1, 0, 0).no(3, "pour", 0, 0, 1, 4, 0).no(3, "pour", 2, 1, 0, 0, 0).no(3, "pour", 2, 0, 0, 0, 1).no(3, "pour", 0, 0, 2, 0, 1);
        e.no(1, "pour", 0, -1, 1, 0, 0).no(1, "pour", 0, 0, 1, -1, 0).no(1, "pour", 0, 0, 1, 0, -1).no(1, "pour", 0, Integer.MIN_VALUE, 1, 0, 1);
        e.no(1, "pour", -1, 0, 1, 0, 0).no(1, "pour", 4, 0, 1, 0, 0).no(1, "pour", 0, 0, -1, 0, 0).no(1, "pour", 0, 0, 4, 0, 0);
        // What wraps around is too far as well.
        e.no(3, "pour", 0, Integer.MAX_VALUE, 1, 0, 1).no(3, "pour", 0, 0, 1, Integer.MAX_VALUE, 1).no(3, "pour", 0, 1, 1, 0, Integer.MAX_VALUE);
        e.no(3, "pour", 0, Integer.MAX_VALUE, 1, Integer.MAX_VALUE, Integer.MAX_VALUE).no(3, "pour", 0, Integer.MAX_VALUE, 1, 0, 0);
        for (int sort = 0; sort < 4; sort++) {
            for (int other = 0; other < 4; other++) {
                e.onNew().after("tray", 0, sort, 1).after("tray", 3, other, 1).after("write", 0, 0, -7);
                if (sort == other) {
                    e.yes(1, "pour", 0, 0, 3, 0, 1).then(-7, "read", 3, 0).then(-7, "read", 0, 0);
                } else {
                    e.no(8, "pour", 0, 0, 3, 0, 1);
                }
            }
        }
    }

    private static void promise8Itself() {
        Edge e = poured(new Edge("Promise 8: (or its own) place on, as they were"));
        holds(e.yes(1, "pour", 0, 0, 0, 1, 4), 0, 1, 1, 2, 3, 4);
        holds(e.yes(1, "pour", 0, 1, 0, 0, 4), 0, 2, 3, 4, 5, 5);
        holds(e.yes(1, "pour", 0, 0, 0, 2, 3), 0, 1, 2, 1, 2, 3);
        holds(e.yes(1, "pour", 0, 0, 0, 0, 5), 0, 1, 2, 3, 4, 5);
        holds(e.yes(1, "pour", 0, 3, 0, 4, 1), 0, 1, 2, 3, 4, 4);
        e.no(3, "pour", 0, 0, 0, 1, 5).no(3, "pour", 0, 1, 0, 0, 5);
    }

    private static void promise9() {
        Edge e = new Edge("Promise 9: Twenty bytes come behind those on the tape, the highest of each int first: how many it has").onNew();
        // The text's twenty letters are told by where its first fault stands.
        e.tells(20, "feed", 0x6d617273, 0x68203220, 0x62792033, 0x20736b69, 0x6e203920).tells(40, "feed", 0x736f6674, 0x20322064, 0x65657020, 0x393b2020, 0x20202020);
        e.then(0, "marsh", 34).then(2, "told", 0).then(3, "told", 1).then(9, "cell", 0, 0, 1).then(2, "cell", 0, 0, 2).then(9, "cell", 0, 0, 3);
        for (int place = 0; place < 20; place++) {
            // A byte that no TOKEN begins with, by its sign bit too, among blanks.
            for (int bad : new int[] {0x00, 0x7f, 0x80, 0xff}) {
                long[] ints = {0x20202020, 0x20202020, 0x20202020, 0x20202020, 0x20202020};
                int shift = 24 - 8 * (place % 4);
                ints[place / 4] = (int) (ints[place / 4] & ~(0xffL << shift) | (long) bad << shift);
                e.onNew().tells(20, "feed", ints).thenNo(9, "marsh", 20).tells(1, "fault", 0).tells(place, "fault", 1);
            }
        }
    }

    private static void promise9Full() {
        Edge e = new Edge("Promise 9: NONE if there would be more than 900").onNew();
        e.fed(" ".repeat(860)).tells(880, "feed", 0, 0, 0, 0, 0).tells(900, "feed", 0, 0, 0, 0, 0).tells(-1, "feed", 0, 0, 0, 0, 0).tells(-1, "feed", 0, 0, 0, 0, 0);
        e.thenNo(1, "marsh", 901).thenNo(9, "marsh", 900).tells(860, "fault", 1).tells(20, "feed", 0, 0, 0, 0, 0);
        // What does not fit leaves the tape as it is.
        e.onNew().fed(" ".repeat(900)).tells(-1, "feed", 0x3f3f3f3f, 0, 0, 0, 0).then(0, "marsh", 900);
        e.onNew().fed(" ".repeat(900)).tells(-1, "feed", 0x3f3f3f3f, 0, 0, 0, 0).then(0, "mornings", 300).tells(20, "feed", 0, 0, 0, 0, 0);
    }

    private static void promise10() {
        Edge e = new Edge("Promise 10: The first n bytes of the tape (which is empty then) are the MARSH: how many WALKERS (1: n below 0, or more than the tape has, too)");
        e.onNew().no(1, "marsh", -1).no(1, "marsh", 1).yes(0, "marsh", 0);
        int has = (TWO.length() + 19) / 20 * 20;
        e.onNew().fed(TWO + " ".repeat(has - TWO.length()));
        e.no(1, "marsh", -1).no(1, "marsh", has + 1).no(1, "marsh", Integer.MIN_VALUE).no(1, "marsh", Integer.MAX_VALUE);
        e.yes(2, "marsh", has).thenNo(1, "marsh", 1).tells(20, "feed", 0, 0, 0, 0, 0);
        e.yes(2, "marsh", TWO.length()).thenNo(1, "marsh", 1).yes(0, "marsh", LAND.length()).thenNo(1, "marsh", 1).then(0, "told", 2);
        e.yes(0, "marsh", 0).thenNo(1, "marsh", 1).then(0, "told", 0);
    }

    private static void promise10Fault() {
        Edge e = new Edge("Promise 10: (9: the old one stays)").on(TWO).after("stand", 1).fed(TWO);
        e.thenNo(9, "marsh", TWO.length() - 1).then(3, "told", 0).then(1, "told", 4).then(2, "told", 5).thenNo(1, "marsh", 1).tells(20, "feed", 0, 0, 0, 0, 0);
        e.yes(2, "marsh", TWO.length()).then(0, "told", 4).then(0, "told", 5);
    }

    private static void promise11() {
        Edge e = new Edge("Promise 11: Likewise the MORNINGS: how many STEPS (1: above 300, too; 9)").on(TWO);
        e.no(1, "mornings", -1).no(1, "mornings", 1).yes(0, "mornings", 0);
        e.on(TWO).fed("stand 1; stand 2;" + " ".repeat(303));
        e.no(1, "mornings", -1).no(1, "mornings", 301).no(1, "mornings", 320).no(1, "mornings", 321).no(1, "mornings", Integer.MAX_VALUE);
        e.yes(2, "mornings", 300).thenNo(1, "mornings", 1).yes(2, "mornings", 299).yes(2, "mornings", 17).yes(1, "mornings", 8).then(1, "live", 0).then(1, "told", 4);
        // With 300 on the tape, 301 is refused by either; with 280, by the tape.
        e.on(TWO).fed("stand 1; stand 2;" + " ".repeat(283)).yes(2, "mornings", 300).no(1, "mornings", 301);
        e.on(TWO).fed("stand 1; stand 2;" + " ".repeat(263)).yes(2, "mornings", 280).no(1, "mornings", 281);
        e.on(TWO).mornings("stand 1;").fed("stand 1; stand 2").thenNo(9, "mornings", 16).then(1, "live", 0).thenNo(1, "mornings", 1);
        // A MARSH on the tape of more than 300 bytes is still one.
        e.on(TWO).fed(TWO + " ".repeat(400 - TWO.length())).yes(2, "marsh", 400);
    }

    private static void promise12() {
        Edge e = new Edge("Promise 12: what 0: the FAULT (0 without one), 1: its place (NONE without). NONE for others, and ahead of any").onNew();
        e.tells(-1, "fault", -1).tells(-1, "fault", 0).tells(-1, "fault", 1).tells(-1, "fault", 2);
        // Ahead of any with STATUS 0 or 9: one with STATUS 1 is none.
        e.thenNo(1, "marsh", 1).tells(-1, "fault", 0).tells(-1, "fault", 1).thenNo(1, "mornings", 1).tells(-1, "fault", 0);
        e.then(0, "marsh", 0).tells(0, "fault", 0).tells(-1, "fault", 1).tells(-1, "fault", 2).tells(-1, "fault", -1);
        e.thenFed("  stop").thenNo(9, "marsh", 6).tells(2, "fault", 0).tells(2, "fault", 1).tells(-1, "fault", 2).tells(-1, "fault", Integer.MAX_VALUE).tells(-1, "fault", Integer.MIN_VALUE);
        e.thenNo(1, "marsh", 1).tells(2, "fault", 0).tells(2, "fault", 1).thenFed("stop").thenNo(9, "mornings", 4).tells(2, "fault", 0).tells(4, "fault", 1);
        e.thenFed("stop;").then(1, "mornings", 5).tells(0, "fault", 0).tells(-1, "fault", 1).then(1, "live", 0).tells(0, "fault", 0);
        // The least place and the most.
        e.onNew().fed("?").thenNo(9, "marsh", 1).tells(0, "fault", 1).thenFed(" ".repeat(899) + "?").thenNo(9, "marsh", 900).tells(899, "fault", 1);
        e.onNew().fed(" ".repeat(899) + "x").thenNo(9, "marsh", 900).tells(899, "fault", 1).tells(2, "fault", 0);
    }

    private static void promise13() {
        Edge e = new Edge("Promise 13: WIDE (what 0) .. all LOAD together (10) (1)").on(TWO);
        e.ranges("told", Edge.of(5), Edge.of(0, 10));
        long[] want = {3, 2, 2, 2, 0, 0, 2, 24, 1, 1, 12};
        for (int what = 0; what <= 10; what++) {
            e.yes(want[what], "told", what);
        }
        // None of a kind, all of a kind.
        e.on("marsh 2 by 1 skin 0 soft 0 deep 0;").yes(0, "told", 7).then(2, "told", 8).then(0, "told", 9).then(1, "plank", 0, 0).then(1, "told", 8).then(1, "told", 9);
        e.then(2, "plank", 1, 0).then(0, "told", 8).then(2, "told", 9).then(0, "told", 10).then(0, "told", 7);
        e.on("marsh 6 by 5 skin 99 soft 0 deep 0;").yes(2970, "told", 7).then(0, "told", 8).then(99, "pierce", 5, 4).then(2871, "told", 7).then(1, "told", 8);
    }

    private static void promise13Sets() {
        Edge e = new Edge("Promise 13: sets of WALKERS (1 for WALKER 0 ..) who are FALLEN (5), HOME (6)");
        StringBuilder b = new StringBuilder("marsh 4 by 1 skin 0 soft 9 deep 9;");
        for (int w = 0; w < 4; w++) {
            b.append("walker ").append("abcd".charAt(w)).append(" at ").append(w).append(" 0 to ").append(w).append(" 0 weight 20 long 9 load 20;");
        }
        e.on(b.toString()).yes(0, "told", 5).then(15, "told", 6).then(80, "told", 10).then(15, "stand", 1).then(15, "told", 5).then(0, "told", 6).then(80, "told", 10);
        for (int w = 0; w < 4; w++) {
            // Only he who does not stand firm falls.
            e.on(b.toString());
            for (int other = 0; other < 4; other++) {
                if (other != w) {
                    e.after("plank", other, 0);
                }
            }
            e.yes(1 << w, "stand", 1).then(1 << w, "told", 5).then(15 - (1 << w), "told", 6).then(1, "walker", w, 6);
        }
    }

    private static void promise14() {
        Edge e = new Edge("Promise 14: Of a CELL, what 0: SKIN .. 6: how many POLES stand there (1)").on(TWO);
        e.ranges("cell", Edge.of(1, 1, 3), Edge.of(0, 2), Edge.of(0, 1), Edge.of(0, 6));
        long[][] want = {{6, 6, 8, 9, 8, 0, 2}, {0, 0, 3, 4, 5, 0, 2}, {6, 6, 8, 9, 8, 1, 0}};
        int[][] cells = {{0, 0}, {1, 0}, {2, 1}};
        for (int i = 0; i < 3; i++) {
            for (int what = 0; what <= 6; what++) {
                e.yes(want[i][what], "cell", cells[i][0], cells[i][1], what);
            }
        }
        // All eight poles in one cell, none in the others; of who is FALLEN, too.
        String four = "marsh 2 by 1 skin 0 soft 9 deep 9; walker a at 0 0 to 0 0 weight 20 long 1; walker b at 0 0 to 0 0 weight 20 long 1;"
            + "walker c at 0 0 to 0 0 weight 20 long 1; walker d at 0 0 to 0 0 weight 20 long 1;";
        e.on(four).yes(8, "cell", 0, 0, 6).then(0, "cell", 1, 0, 6).then(15, "stand", 1).then(8, "cell", 0, 0, 6).then(1, "rise", 0, 1, 0).then(6, "cell", 0, 0, 6);
        e.then(2, "cell", 1, 0, 6);
    }

    private static void promise15() {
        Edge e = new Edge("Promise 15: Of a WALKER, what 0: WEIGHT .. 7: how many STEPS he did (1)").on(TWO);
        e.ranges("walker", Edge.of(1, 3), Edge.of(0, 1), Edge.of(0, 7));
        long[][] want = {{4, 2, 10, 5, 2, 1, 0, 0}, {16, 1, 3, 7, 1, 0, 0, 0}};
        for (int w = 0; w < 2; w++) {
            for (int what = 0; what <= 7; what++) {
                e.yes(want[w][what], "walker", w, what);
            }
        }
        e.yes(2, "stand", 1).then(1, "walker", 1, 6).then(0, "walker", 0, 6).then(1, "rise", 1, 2, 1).then(0, "walker", 1, 6);
    }

    private static void promise15Steps() {
        Edge e = new Edge("Promise 15: 7: how many STEPS he did").on(TWO);
        e.yes(1, "step", 0, 0, 0, 1).then(1, "walker", 0, 7).then(0, "walker", 1, 7).thenNo(7, "step", 0, 0, 2, 1).then(1, "walker", 0, 7);
        e.then(1, "mark").then(1, "step", 0, 1, 0, 1).then(2, "walker", 0, 7).then(0, "undo").then(1, "walker", 0, 7);
        e.on(TWO).mornings("step a 0 0 1; step a 0 0 1; step a 0 2 1;").yes(3, "live", 0).then(2, "walker", 0, 7).then(1, "mean", 0, 3).then(2, "walker", 0, 7);
        // Both poles come to be sunk by 9: five moments each.
        e.then(10, "soonest", 0, 2).then(2, "walker", 0, 7);
    }

    private static void promise16() {
        Edge e = new Edge("Promise 16: Of a POLE (0, 1) of a WALKER, what 0: the column, 1: the row, 2: by how much it is SUNK (1)").on(TWO);
        e.ranges("pole", Edge.of(1, 0, 1), Edge.of(0, 1), Edge.of(0, 1), Edge.of(0, 2));
        e.yes(1, "step", 0, 1, 1, 1).then(1, "pole", 0, 1, 0).then(1, "pole", 0, 1, 1).then(0, "pole", 0, 1, 2).then(0, "pole", 0, 0, 0).then(0, "pole", 0, 0, 1);
        // b's first pole sank by 3 times 12 by 8, no further than 4, and he is as long as 3.
        e.then(4, "pole", 1, 0, 2).then(0, "pole", 1, 1, 2).then(2, "told", 5);
    }
}
