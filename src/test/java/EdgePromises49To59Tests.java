/** Promises 49 to 59: holes, MORNINGS, MARKS. One method for each promise, with the sentence it is about. */
final class EdgePromises49To59Tests {
    private static final String LAND = "marsh 4 by 3 skin 20 soft 0 deep 0; mends 2; firm 2 1; cell 0 2 odds 16; cell 1 2 odds 16; cell 2 2 odds 1;";
    private static final String TWO = LAND + "walker a at 0 0 to 3 2 weight 4 reach 2 load 5; walker b at 1 0 to 1 0 weight 6 load 7;";

    private EdgePromises49To59Tests() {
    }

    public static void main(String[] args) {
        promise49();
        promise50();
        promise51();
        promise52();
        promise53();
        promise54();
        promise55();
        promise55Done();
        promise56();
        promise56Latest();
        promise56Left();
        promise57();
        promise57Stays();
        promise58();
        promise59();
        promise59All();
        Check.close("EdgePromises49To59Tests");
    }

    private static void promise49() {
        Edge e = new Edge("Promise 49: How much SKIN is gone in a ROW (whole less what there is, of CELLS that are not FIRM) (1)").on(TWO).ranges("gone", Edge.of(1), Edge.of(0, 2));
        e.yes(0, "gone", 0).yes(0, "stand", 1).then(24, "gone", 0).then(0, "gone", 1).then(0, "gone", 2).then(20, "pierce", 3, 0).then(44, "gone", 0);
        // A FIRM one does not count, whatever its skin is; rotten, it is whole.
        e.then(2, "plank", 3, 0).then(24, "gone", 0).then(1, "rot", 3, 0).then(24, "gone", 0).then(2, "plank", 0, 0).then(14, "gone", 0);
        // None, all of it: 99 in each of six cells.
        e.on("marsh 6 by 1 skin 99 soft 0 deep 0;").yes(0, "gone", 0).after("pierce", 0, 0).after("pierce", 1, 0).after("pierce", 2, 0).after("pierce", 3, 0);
        e.after("pierce", 4, 0).yes(495, "gone", 0).after("pierce", 5, 0).yes(594, "gone", 0).then(0, "told", 7);
        e.on("marsh 6 by 1 skin 0 soft 0 deep 0;").yes(0, "gone", 0).onNew().no(1, "gone", 0);
    }

    private static void promise50() {
        Edge e = new Edge("Promise 50: TRACKS by a TRAY (1; 2; 3)");
        for (int rows = 1; rows <= 5; rows++) {
            String land = "marsh 1 by " + rows + " skin 1 soft 1 deep 1; walker a at 0 0 to 0 0 weight 3;";
            e.on(land).no(1, "tracks", -1).no(1, "tracks", 4).no(2, "tracks", 0).no(2, "tracks", 3);
            e.on(land).after("tray", 3, 1, rows - 1).no(3, "tracks", 3).on(land).after("tray", 3, 1, rows).yes(1, "tracks", 3).on(land).after("tray", 3, 1, rows + 1).yes(1, "tracks", 3);
            e.on(land).after("tray", 3, 1, 60).after("write", 3, rows - 1, 3).yes(1, "tracks", 3).after("write", 3, rows, 9).yes(1, "tracks", 3);
            e.after("write", 3, rows - 1, 2).yes(0, "tracks", 3).after("write", 3, rows - 1, 4).yes(0, "tracks", 3);
        }
        e.onNew().no(2, "tracks", 0).after("tray", 0, 0, 0).yes(1, "tracks", 0);
    }

    private static void promise51() {
        Edge e = new Edge("Promise 51: SURE: a set (1; 2; 3; 6: there is no way)");
        String land = "marsh 1 by 2 skin 1 soft 1 deep 1; walker a at 0 0 to 0 0 weight 3; walker b at 0 0 to 0 0 weight 3;";
        e.on(land).no(1, "sure", -1).no(1, "sure", 4).no(2, "sure", 2).after("tray", 2, 1, 1).no(3, "sure", 2);
        e.on(land).after("tray", 2, 1, 2).yes(0, "sure", 2).after("write", 2, 1, 3).yes(0, "sure", 2).then(2, "tracks", 2).after("write", 2, 0, 3).yes(3, "sure", 2).then(2, "tracks", 2);
        e.after("write", 2, 0, 4).no(6, "sure", 2).after("write", 2, 0, 6).no(6, "sure", 2).after("write", 2, 1, 0).yes(3, "sure", 2).then(1, "tracks", 2);
        e.on(land).after("tray", 2, 1, 60).after("write", 2, 2, 99).yes(0, "sure", 2);
    }

    private static void promise52() {
        Edge e = new Edge("Promise 52: The FRACTION is LUCK of a ROW (1)").on(TWO).ranges("luck", Edge.of(1), Edge.of(0, 2));
        e.yes(1, "luck", 0).tells(1, "top").tells(16, "bottom").yes(1, "luck", 1).tells(1, "top").tells(8, "bottom").yes(1, "luck", 2).tells(1, "top").tells(32, "bottom");
        e.thenNo(1, "luck", 3).tells(1, "top").tells(32, "bottom").thenNo(1, "luck", -1).tells(32, "bottom").onNew().no(1, "luck", 0).tells(1, "bottom");
    }

    private static void promise53() {
        Edge e = new Edge("Promise 53: The ROW of the best LUCK, of several the first (6: no ROWS)").onNew().no(6, "luckiest").on(TWO).yes(1, "luckiest");
        e.on("marsh 1 by 1 skin 1 soft 1 deep 1; cell 0 0 odds 0;").yes(0, "luckiest");
        for (int r = 0; r < 5; r++) {
            String land = "marsh 1 by 5 skin 1 soft 1 deep 1;";
            e.on(land).yes(0, "luckiest").on(land + "cell 0 " + r + " odds 9;").yes(r, "luckiest").on(land + "firm 0 " + r + ";").yes(r, "luckiest");
            e.on(land + "cell 0 4 odds 16; cell 0 " + r + " odds 16;").yes(r, "luckiest");
            e.on(land + "cell 0 " + r + " odds 7;").yes(r == 0 ? 1 : 0, "luckiest");
        }
        // All of no luck; as good by other numbers: 16 times 4 is 8 times 8.
        e.on("marsh 1 by 2 skin 1 soft 1 deep 1; cell 0 0 odds 0; cell 0 1 odds 0;").yes(0, "luckiest");
        e.on("marsh 2 by 2 skin 1 soft 1 deep 1; cell 0 1 odds 16; cell 1 1 odds 4;").yes(0, "luckiest");
        e.on("marsh 2 by 2 skin 1 soft 1 deep 1; cell 0 1 odds 16; cell 1 1 odds 5;").yes(1, "luckiest");
        e.on("marsh 2 by 2 skin 1 soft 1 deep 1; cell 0 1 odds 16; cell 1 1 odds 3;").yes(0, "luckiest").tells(0, "top").tells(1, "bottom");
    }

    private static void promise54() {
        Edge e = new Edge("Promise 54: SKIN of a ROW comes to a TRAY, CELL by CELL: how many (1; 2; 3)").on(TWO).after("tray", 0, 1, 4).after("tray", 1, 1, 4).after("tray", 2, 1, 4).after("tray", 3, 1, 4);
        e.ranges("copyRow", Edge.of(1, 1), Edge.of(0, 2), Edge.of(0, 3));
        for (int wide = 1; wide <= 6; wide++) {
            String land = "marsh " + wide + " by 2 skin 99 soft 1 deep 1; cell " + (wide - 1) + " 1 skin 7;";
            e.on(land).no(2, "copyRow", 1, 0).after("tray", 0, 0, wide - 1).no(3, "copyRow", 1, 0);
            for (int sort = 0; sort < 4; sort++) {
                e.on(land).after("tray", 0, sort, wide).yes(wide, "copyRow", 1, 0).then(7, "read", 0, wide - 1).thenNo(3, "read", 0, wide);
                e.on(land).after("tray", 0, sort, wide + 1).after("write", 0, wide, 5).yes(wide, "copyRow", 1, 0).then(7, "read", 0, wide - 1).then(5, "read", 0, wide);
            }
        }
        // As it is now, of FIRM ones, too.
        e.on(TWO).after("tray", 3, 0, 60).after("stand", 1).after("pierce", 3, 0).yes(4, "copyRow", 0, 3).then(10, "read", 3, 0).then(6, "read", 3, 1).then(20, "read", 3, 2).then(0, "read", 3, 3);
        e.then(0, "read", 3, 4).then(4, "copyRow", 1, 3).then(20, "read", 3, 2);
    }

    private static void promise55() {
        Edge e = new Edge("Promise 55: LIVED (1; 6: no MORNINGS)").on(TWO).no(6, "live", 0).no(1, "live", -1).no(1, "live", 10000).mornings("stand 1;").ranges("live", Edge.of(5), Edge.of(0, 9999));
        e.on(TWO).mornings("stand 1;").yes(0, "marsh", 0).thenNo(6, "live", 0);
    }

    private static void promise55Done() {
        Edge e = new Edge("Promise 55: how many STEPS (of the text) were done").on(TWO);
        e.takesMornings(0, "").then(0, "live", 0).takesMornings(1, "stop;").then(1, "live", 0).takesMornings(2, "stop; stand 1;").then(1, "live", 0);
        e.takesMornings(1, "step a 0 0 0;").then(1, "live", 0).takesMornings(2, "when home a; stand 1; end;").then(1, "live", 0).takesMornings(2, "when home b; stand 1; end;").then(2, "live", 0);
        e.takesMornings(30, "stand 1;".repeat(30)).then(30, "live", 0).then(30, "told", 4);
    }

    private static void promise56() {
        Edge e = new Edge("Promise 56: what 0: MISSED, 1: MOMENTS, 2: STEPS of WALKERS that came to an end, 3: WALKERS who fell, 4 (1; 6: there was none)").on(TWO);
        e.no(1, "lived", -1).no(1, "lived", 5).no(6, "lived", 0).no(6, "lived", 4).mornings("stand 1;").no(6, "lived", 0).after("live", 0).ranges("lived", Edge.of(1), Edge.of(0, 4));
        // None of all, then some of all but 4.
        e.on(TWO).takesMornings(0, "").then(0, "live", 0).then(0, "lived", 0).then(0, "lived", 1).then(0, "lived", 2).then(0, "lived", 3).then(0, "lived", 4);
        String fall = "marsh 2 by 1 skin 0 soft 8 deep 30; firm 0 0; walker a at 0 0 to 1 0 weight 1; walker b at 1 0 to 1 0 weight 4 long 6; walker c at 1 0 to 1 0 weight 4 long 1;";
        e.on(fall).after("stand", 1).mornings("step a 0 1 0; step a 1 1 0; step b 0 1 0; step b 0 1 0; step c 0 1 0; hand a a 1; stand 3;");
        // b, sunk by 2, 4 and 6, falls in the first two moments; c was fallen ahead of it.
        e.yes(7, "live", 0).then(4, "lived", 0).then(5, "lived", 1).then(2, "lived", 2).then(1, "lived", 3).then(0, "lived", 4).then(6, "told", 5);
    }

    private static void promise56Latest() {
        Edge e = new Edge("Promise 56: Of live() latest with STATUS 0").on(TWO).mornings("stand 3;").after("live", 0).mornings("stand 5;").yes(3, "lived", 1);
        e.then(1, "live", 0).then(5, "lived", 1).thenNo(1, "live", 10000).then(5, "lived", 1).then(1, "mean", 0, 3).then(5, "lived", 1).then(0, "marsh", 0).then(5, "lived", 1);
        e.thenNo(6, "live", 0).then(5, "lived", 1).then(1, "mark").then(0, "mornings", 0).then(0, "live", 0).then(0, "lived", 1).then(0, "undo").then(0, "lived", 1);
        // mean() alone is no live().
        e.on(TWO).mornings("stand 3;").after("mean", 0, 2).no(6, "lived", 0);
    }

    private static void promise56Left() {
        Edge e = new Edge("Promise 56: 4: 1 if a STEP of the text was left to be done, else 0").on(TWO);
        String many = "loop 99; hand a a 1; hand a a 1; hand a a 1; end;";
        e.takesMornings(6, many + "stop; stop;").then(299, "live", 0).then(0, "lived", 4).takesMornings(6, many + "hand a a 1; stop;").then(300, "live", 0).then(0, "lived", 4);
        e.takesMornings(6, many + "hand a a 1; hand a a 1;").then(300, "live", 0).then(0, "lived", 4).then(299, "lived", 0);
        e.takesMornings(7, many + "hand a a 1; hand a a 1; stop;").then(300, "live", 0).then(1, "lived", 4).then(299, "lived", 0);
        // Told anew each time.
        e.then(0, "mornings", 0).then(0, "live", 0).then(0, "lived", 4).then(0, "lived", 0);
    }

    private static void promise57() {
        Edge e = new Edge("Promise 57: the mean .. by so many seeds (1 to 20) from one on (1: the last above 9,999, too; 6: no MORNINGS)").on(TWO);
        e.no(6, "mean", 0, 1).no(6, "mean", 9980, 20).no(1, "mean", 0, 0).no(1, "mean", 9981, 20).mornings("stand 1;");
        e.no(1, "mean", -1, 1).no(1, "mean", -1, 20).no(1, "mean", 0, 0).no(1, "mean", 0, -1).no(1, "mean", 0, 21).no(1, "mean", 10000, 1).no(1, "mean", 9999, 2).no(1, "mean", 9980, 21);
        e.no(1, "mean", 9981, 20).no(1, "mean", Integer.MAX_VALUE, 1).no(1, "mean", Integer.MAX_VALUE, 20).no(1, "mean", Integer.MIN_VALUE, 1).no(1, "mean", 0, Integer.MAX_VALUE);
        e.no(1, "mean", 0, Integer.MIN_VALUE).no(1, "mean", 9999, Integer.MIN_VALUE);
        // 220 of eleven cells, less 10 and 14.
        for (long[] m : new long[][] {{0, 1}, {0, 2}, {0, 19}, {0, 20}, {9979, 20}, {9980, 20}, {9998, 1}, {9998, 2}, {9999, 1}}) {
            e.yes(1, "mean", m[0], m[1]).tells(196, "top").tells(1, "bottom");
        }
        // Each seed counts: only that of 2 wears, by 3, among 0 to 3.
        e.on("marsh 2 by 1 skin 9 soft 0 deep 0; walker a at 0 0 to 0 0 weight 3;").mornings("any a;");
        e.yes(1, "mean", 1, 1).tells(18, "top").tells(1, "bottom").yes(1, "mean", 2, 1).tells(15, "top").tells(1, "bottom").yes(1, "mean", 2, 2).tells(33, "top").tells(2, "bottom");
    }

    private static void promise57Stays() {
        Edge e = new Edge("Promise 57: all stays as it is").on(TWO).mornings("step a 0 1 0; stand 3; hand a b 1;").after("mark").after("stand", 1);
        e.yes(1, "mean", 0, 20).then(1, "told", 4).then(0, "walker", 0, 7).then(5, "walker", 0, 3).then(24, "gone", 0).then(2, "cell", 0, 0, 6).then(3, "live", 0).then(5, "told", 4);
        e.then(0, "undo").then(0, "told", 4).then(3, "live", 0);
    }

    private static void promise58() {
        Edge e = new Edge("Promise 58: A MARK more: how many there are (4)").onNew().yes(1, "mark").then(2, "mark").then(3, "mark").thenNo(4, "mark");
        e.onNew().after("mark").after("mark").yes(3, "mark").after("mark").no(4, "mark").yes(2, "undo").then(3, "mark").thenNo(4, "mark");
        // A refused one leaves the latest as it was.
        e.on(TWO).after("mark").after("mark").after("stand", 1).after("mark").after("stand", 1).no(4, "mark").thenNo(4, "mark").then(2, "undo").then(1, "told", 4);
        // Another MARSH leaves the MARKS.
        e.on(TWO).after("mark").after("marsh", 0).yes(2, "mark").then(1, "undo").then(0, "told", 0).then(0, "undo").then(4, "told", 0);
    }

    private static void promise59() {
        Edge e = new Edge("Promise 59: All is taken back to the latest MARK: how many there are left (6)").onNew().no(6, "undo").on(TWO).no(6, "undo");
        e.on(TWO).after("mark").yes(0, "undo").thenNo(6, "undo").after("mark").yes(1, "undo").then(0, "undo").thenNo(6, "undo").after("mark").yes(2, "undo").then(1, "undo").then(0, "undo").thenNo(6, "undo");
    }

    private static void promise59All() {
        Edge e = new Edge("Promise 59: All is taken back").on(TWO).after("mark");
        e.yes(1, "step", 0, 0, 1, 0).then(0, "undo").then(0, "told", 4).then(0, "pole", 0, 0, 0).then(0, "walker", 0, 7).then(220, "told", 7);
        e.yes(2, "plank", 0, 0).then(0, "undo").then(1, "told", 9).yes(1, "rot", 2, 1).then(0, "undo").then(1, "cell", 2, 1, 5).yes(20, "pierce", 0, 0).then(0, "undo").then(20, "cell", 0, 0, 0);
        e.yes(5, "pack", 0, 0).then(0, "undo").then(5, "walker", 0, 3).yes(1, "send", 0, 0, 0).then(0, "undo").then(3, "walker", 0, 4).yes(1, "weather", 9).then(0, "undo").then(2, "told", 3);
        e.yes(8, "hand", 0, 1, 1).then(0, "undo").then(7, "walker", 1, 3).yes(0, "stand", 99).then(0, "undo").then(0, "told", 4).yes(0, "marsh", 0).then(0, "undo").then(4, "told", 0).then(16, "cell", 1, 2, 4);
        // No part of it: TRAYS, the tape, the FRACTION, fault(), lived().
        e.yes(1, "tray", 0, 0, 1).then(0, "undo").then(0, "read", 0, 0).yes(1, "luck", 0).then(0, "undo").tells(16, "bottom").yes(4, "told", 0).thenFed("?").then(0, "undo").thenNo(9, "marsh", 1);
        e.mornings("stand 2;").yes(1, "live", 0).then(0, "undo").then(2, "lived", 1).thenNo(6, "live", 0).tells(0, "fault", 0);
    }
}
