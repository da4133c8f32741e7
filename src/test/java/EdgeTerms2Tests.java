/** Terms, ==== 2.: FAR, BURDEN, how a MOMENT goes by, STEP, STAND, HAND, PLANK, HOME. One method for each sentence. */
final class EdgeTerms2Tests {
    private EdgeTerms2Tests() {
    }

    public static void main(String[] args) {
        far();
        burden();
        sunkAtFirst();
        bearsHalf();
        bearsAll();
        firmNothing();
        skinLess();
        skinByOrder();
        sunkMore();
        sunkNoFurther();
        sunkSoFarStays();
        fallsAsLong();
        fallsAtOnce();
        mends();
        mendsWhere();
        mendsFallen();
        mendsInTheAir();
        momentMost();
        stepReach();
        stepTakes();
        stepThenStands();
        stepFalls();
        stepOfEach();
        stand();
        handReach();
        handPoles();
        handMost();
        plank();
        home();
        Check.close("EdgeTerms2Tests");
    }

    private static String one(int skin, int soft, int deep, String walker) {
        return "marsh 1 by 1 skin " + skin + " soft " + soft + " deep " + deep + "; walker a at 0 0 to 0 0 " + walker + ";";
    }

    /** Pole 1 of walker 0 is pulled out in column 0 of two: pole 0, there too, bears all. */
    private static String two(int skin, int soft, int deep, String walker) {
        return "marsh 2 by 1 skin " + skin + " soft " + soft + " deep " + deep + "; walker a at 0 0 to 1 0 " + walker + ";";
    }

    private static void far() {
        Edge e = new Edge("Terms 2, FAR .. columns and rows .. together (0: the same)").on("marsh 6 by 5 skin 1 soft 1 deep 1;");
        for (int c = 0; c < 6; c++) {
            for (int r = 0; r < 5; r++) {
                e.then(Math.abs(c - 2) + Math.abs(r - 3), "far", c, r, 2, 3).then(c + r, "far", 0, 0, c, r);
            }
        }
        e.yes(0, "far", 0, 0, 0, 0).then(0, "far", 5, 4, 5, 4).then(9, "far", 0, 4, 5, 0);
    }

    private static void burden() {
        Edge e = new Edge("Terms 2, BURDEN of a WALKER: WEIGHT and LOAD");
        e.on(one(9, 1, 1, "weight 1")).yes(1, "burden", 0);
        e.on(one(9, 1, 1, "weight 1 load 20")).yes(21, "burden", 0);
        e.on(one(9, 1, 1, "weight 20 load 20")).yes(40, "burden", 0).then(20, "pack", 0, 19).then(39, "burden", 0);
    }

    private static void sunkAtFirst() {
        Edge e = new Edge("Terms 2, Each POLE stands in a CELL and is SUNK by so much (0 at first)");
        e.on(one(0, 9, 30, "weight 20 long 1")).yes(0, "pole", 0, 0, 2).then(0, "pole", 0, 1, 2);
    }

    private static void bearsHalf() {
        Edge e = new Edge("Terms 2, a POLE that stands bears half of the BURDEN, rounded up");
        int[][] halves = {{1, 0, 1}, {2, 0, 1}, {3, 0, 2}, {4, 0, 2}, {1, 1, 1}, {1, 2, 2}, {19, 0, 10}, {20, 0, 10}, {20, 19, 20}, {20, 20, 20}};
        for (int[] half : halves) {
            e.on(one(99, 1, 1, "weight " + half[0] + " load " + half[1]));
            e.yes(0, "stand", 1).then(99 - 2 * half[2], "cell", 0, 0, 0);
        }
    }

    private static void bearsAll() {
        Edge e = new Edge("Terms 2, or all of it, if the other one is in the air (that bears nothing)");
        int[][] burdens = {{1, 0}, {2, 0}, {3, 0}, {20, 0}, {1, 20}, {20, 20}};
        for (int[] b : burdens) {
            for (int pole = 0; pole < 2; pole++) {
                e.on(two(99, 1, 1, "weight " + b[0] + " load " + b[1]));
                e.yes(1, "step", 0, pole, 1, 0).then(99 - b[0] - b[1], "cell", 0, 0, 0).then(99, "cell", 1, 0, 0);
            }
        }
    }

    private static void firmNothing() {
        Edge e = new Edge("Terms 2, In a FIRM CELL nothing comes of it");
        for (int skin = 0; skin <= 1; skin++) {
            e.on(one(skin, 9, 30, "weight 20 long 1 load 20")).after("plank", 0, 0);
            e.yes(0, "stand", 99).then(skin, "cell", 0, 0, 0).then(0, "pole", 0, 0, 2).then(0, "pole", 0, 1, 2).then(0, "told", 5);
            // Just outside: the same cell, not firm any more.
            e.then(1, "rot", 0, 0).then(1, "stand", 1 + skin).then(0, "cell", 0, 0, 0);
        }
    }

    private static void skinLess() {
        Edge e = new Edge("Terms 2, Else if the CELL has SKIN left, that is less by what the POLE bears (0 at least)");
        int[][] skins = {{0, 0, 3}, {1, 0, 0}, {4, 0, 0}, {5, 0, 0}, {6, 1, 0}, {99, 94, 0}};
        for (int[] s : skins) {
            e.on(two(s[0], 5, 30, "weight 5 long 30"));
            // Pole 0 bears 5, the skin is what it is; only without any he sinks, by 5 times 5 by 8.
            e.yes(1, "step", 0, 1, 1, 0).then(s[1], "cell", 0, 0, 0).then(s[2], "pole", 0, 0, 2).then(0, "pole", 0, 1, 2);
        }
    }

    private static void skinByOrder() {
        Edge e = new Edge("Terms 2, WALKER by WALKER, by numbers, POLE 0, then POLE 1");
        // Each pole bears 2 and sinks by 2, where the skin is gone ahead of it.
        for (int skin = 0; skin <= 9; skin++) {
            e.on("marsh 1 by 1 skin " + skin + " soft 8 deep 30; walker a at 0 0 to 0 0 weight 4 long 30; walker b at 0 0 to 0 0 weight 4 long 30;");
            e.yes(0, "stand", 1).then(Math.max(0, skin - 8), "cell", 0, 0, 0);
            for (int stilt = 0; stilt < 4; stilt++) {
                e.then(skin > 2 * stilt ? 0 : 2, "pole", stilt / 2, stilt % 2, 2);
            }
        }
    }

    private static void sunkMore() {
        Edge e = new Edge("Terms 2, Else the POLE is SUNK by SOFT times what it bears by 8 more, rounded down");
        int[][] sinks = {{0, 20, 0}, {1, 7, 0}, {1, 8, 1}, {1, 15, 1}, {1, 16, 2}, {7, 1, 0}, {8, 1, 1}, {9, 1, 1}, {3, 5, 1}, {4, 4, 2}, {9, 20, 22}};
        for (int[] s : sinks) {
            e.on(two(0, s[0], 30, "weight " + s[1] + " long 30"));
            e.yes(1, "step", 0, 1, 1, 0).then(s[2], "pole", 0, 0, 2).then(0, "told", 5);
        }
        // The most that there is: 9 times 40 by 8 is 45.
        e.on(two(0, 9, 30, "weight 20 long 30 load 20")).yes(1, "step", 0, 1, 1, 0).then(30, "pole", 0, 0, 2).then(1, "told", 5);
        // What is left by rounding down is not kept: 7 by 8, each time.
        e.on(one(0, 7, 30, "weight 2")).yes(0, "stand", 99).then(0, "pole", 0, 0, 2);
        e.on(one(0, 5, 30, "weight 6 long 30")).yes(0, "stand", 3).then(3, "pole", 0, 0, 2).then(3, "pole", 0, 1, 2);
    }

    private static void sunkNoFurther() {
        Edge e = new Edge("Terms 2, but no further than the CELL is DEEP");
        // By 3 a moment: 0, 3, 6, ..
        int[][] deeps = {{0, 0, 0, 0}, {1, 1, 1, 1}, {2, 2, 2, 2}, {3, 3, 3, 3}, {4, 3, 4, 4}, {5, 3, 5, 5}, {6, 3, 6, 6}, {7, 3, 6, 7}, {30, 3, 6, 9}};
        for (int[] d : deeps) {
            e.on(one(0, 8, d[0], "weight 6 long 30"));
            for (int n = 1; n <= 3; n++) {
                e.yes(0, "stand", n).then(d[n], "pole", 0, 0, 2).then(d[n], "pole", 0, 1, 2);
            }
        }
    }

    private static void sunkSoFarStays() {
        Edge e = new Edge("Terms 2, (a POLE that is SUNK so far, or further, stays)");
        e.on(one(0, 8, 5, "weight 6 long 6")).yes(0, "stand", 2).then(5, "pole", 0, 0, 2).then(0, "stand", 99).then(5, "pole", 0, 0, 2);
        e.then(0, "told", 5);
        // A plank below a pole that is sunk, and skin anew: it stays as sunk as it was.
        e.on(one(9, 8, 5, "weight 6 long 6")).after("stand", 3).yes(3, "pole", 0, 0, 2).then(1, "plank", 0, 0).then(0, "stand", 9);
        e.then(3, "pole", 0, 0, 2).then(1, "rot", 0, 0).then(0, "stand", 1).then(3, "pole", 0, 0, 2).then(3, "cell", 0, 0, 0);
        e.then(0, "stand", 3).then(5, "pole", 0, 0, 2);
    }

    private static void fallsAsLong() {
        Edge e = new Edge("Terms 2, Is it SUNK as much as the POLES are LONG, or more, the WALKER is FALLEN");
        // By 6 in one moment.
        for (int length : new int[] {1, 5, 6, 7, 30}) {
            e.on(two(0, 8, 30, "weight 6 long " + length));
            e.yes(1, "step", 0, 1, 1, 0).then(6, "pole", 0, 0, 2).then(length <= 6 ? 1 : 0, "walker", 0, 6);
        }
        // The ground as deep as the poles are long, one less, one more.
        int[][] deeps = {{9, 10, 0}, {10, 10, 1}, {11, 10, 1}, {29, 30, 0}, {30, 30, 1}, {0, 1, 0}, {1, 1, 1}};
        for (int[] d : deeps) {
            e.on(one(0, 8, d[0], "weight 2 long " + d[1]));
            e.yes(d[2], "stand", 99).then(d[2], "told", 5).then(d[2] == 1 ? d[1] : d[0], "pole", 0, 0, 2);
        }
    }

    private static void fallsAtOnce() {
        Edge e = new Edge("Terms 2, FALLEN (at once: his second POLE bears nothing any more)");
        e.on(one(0, 8, 30, "weight 6 long 3")).yes(1, "stand", 1).then(3, "pole", 0, 0, 2).then(0, "pole", 0, 1, 2);
        e.then(0, "stand", 5).then(3, "pole", 0, 0, 2).then(0, "pole", 0, 1, 2);
        e.on(one(0, 8, 30, "weight 6 long 4")).yes(0, "stand", 1).then(3, "pole", 0, 1, 2).then(1, "stand", 1).then(3, "pole", 0, 1, 2);
        // By his second pole: the first one bore ahead of it. A skin of 3 holds for pole 0 alone.
        e.on(one(3, 8, 30, "weight 6 long 3")).yes(1, "stand", 1).then(0, "pole", 0, 0, 2).then(3, "pole", 0, 1, 2);
        // Who is not fallen goes on: b bears behind a.
        e.on("marsh 1 by 1 skin 0 soft 8 deep 30; walker a at 0 0 to 0 0 weight 6 long 3; walker b at 0 0 to 0 0 weight 6 long 4;");
        e.yes(1, "stand", 1).then(3, "pole", 1, 0, 2).then(3, "pole", 1, 1, 2).then(2, "stand", 1).then(3, "told", 5);
    }

    private static void mends() {
        Edge e = new Edge("Terms 2, MENDS: so much more SKIN, no more than whole");
        for (int mends : new int[] {0, 1, 8, 9}) {
            for (int whole : new int[] {0, 1, 8, 9, 10, 99}) {
                e.on("marsh 1 by 1 skin " + whole + " soft 1 deep 1; mends " + mends + ";").after("pierce", 0, 0);
                e.yes(0, "stand", 1).then(Math.min(whole, mends), "cell", 0, 0, 0);
                e.then(0, "stand", 1).then(Math.min(whole, 2 * mends), "cell", 0, 0, 0);
                e.then(0, "stand", 97).then(mends == 0 ? 0 : whole, "cell", 0, 0, 0).then(mends == 0 ? whole : 0, "gone", 0);
            }
        }
    }

    private static void mendsWhere() {
        Edge e = new Edge("Terms 2, Each CELL that is not FIRM, in which no POLE of anybody stands, MENDS");
        String text = "marsh 3 by 2 skin 20 soft 0 deep 0; mends 2; walker a at 0 0 to 0 0 weight 1; walker b at 1 0 to 0 0 weight 1;";
        e.on(text).after("pierce", 0, 0).after("pierce", 1, 0).after("pierce", 2, 0).after("pierce", 0, 1).after("pierce", 1, 1).after("plank", 1, 1);
        e.yes(0, "stand", 1).then(0, "cell", 0, 0, 0).then(0, "cell", 1, 0, 0).then(2, "cell", 2, 0, 0).then(2, "cell", 0, 1, 0);
        e.then(0, "cell", 1, 1, 0).then(20, "cell", 2, 1, 0);
        // One pole alone is enough; where the last one left, it mends from the next moment on.
        e.then(1, "step", 0, 0, 0, 1).then(0, "cell", 0, 0, 0).then(4, "cell", 0, 1, 0).then(1, "cell", 0, 0, 6);
        e.then(0, "stand", 1).then(0, "cell", 0, 0, 0).then(3, "cell", 0, 1, 0);
        e.then(1, "step", 0, 1, 0, 1).then(2, "cell", 0, 0, 0).then(2, "cell", 0, 1, 0);
    }

    private static void mendsFallen() {
        Edge e = new Edge("Terms 2, (of who is FALLEN: they stand)");
        e.on("marsh 2 by 1 skin 20 soft 9 deep 9; mends 2; walker a at 0 0 to 0 0 weight 20 long 9;").after("pierce", 0, 0).after("pierce", 1, 0);
        e.yes(1, "stand", 1).then(0, "cell", 0, 0, 0).then(2, "cell", 1, 0, 0).then(2, "cell", 0, 0, 6);
        e.then(0, "stand", 2).then(0, "cell", 0, 0, 0).then(6, "cell", 1, 0, 0);
        // Up again elsewhere, his old cell mends.
        e.then(1, "rise", 0, 1, 0).then(1, "stand", 1).then(2, "cell", 0, 0, 0).then(0, "cell", 1, 0, 0);
    }

    private static void mendsInTheAir() {
        Edge e = new Edge("Terms 2, in all of these the POLE is in the air: no POLE stands there then");
        String text = "marsh 2 by 1 skin 20 soft 8 deep 9; mends 2; firm 0 0; walker a at 0 0 to 0 0 weight 4;";
        e.on(text).after("step", 0, 1, 1, 0).after("pierce", 1, 0).after("stand", 2);
        // Sunk by 4, so three moments: the cell below mends in each of them, though he comes back to it.
        e.yes(3, "step", 0, 1, 1, 0).then(6, "cell", 1, 0, 0).then(0, "pole", 0, 1, 2).then(1, "cell", 1, 0, 6);
        e.yes(3, "step", 0, 1, 0, 0).then(6, "cell", 1, 0, 0).then(0, "cell", 1, 0, 6);
        e.yes(0, "stand", 1).then(0, "cell", 1, 0, 0);
    }

    private static void momentMost() {
        Edge e = new Edge("Terms 2, The MOMENT is 1 more (9,999 at most)").on(one(9, 0, 0, "weight 1"));
        e.yes(0, "told", 4).then(0, "stand", 1).then(1, "told", 4).then(1, "step", 0, 0, 0, 0).then(2, "told", 4);
        e.till(9997).yes(9997, "told", 4).then(0, "stand", 1).then(9998, "told", 4).then(0, "stand", 1).then(9999, "told", 4);
        e.thenNo(4, "stand", 1).then(9999, "told", 4).thenNo(4, "step", 0, 0, 0, 0).then(9999, "told", 4);
        e.yes(1, "step", 0, 0, 0, 0).then(1, "step", 0, 0, 0, 0).then(9999, "told", 4).thenNo(4, "step", 0, 0, 0, 0);
        e.yes(0, "stand", 2).then(9999, "told", 4);
    }

    private static void stepReach() {
        Edge e = new Edge("Terms 2, to a CELL no FARTHER than REACH from where his other POLE stands");
        for (int reach = 1; reach <= 3; reach++) {
            e.on("marsh 6 by 5 skin 50 soft 0 deep 0; walker a at 2 2 to 0 0 weight 1 reach " + reach + ";").after("step", 0, 0, 3, 2);
            for (int c = 0; c < 6; c++) {
                for (int r = 0; r < 5; r++) {
                    // Pole 1 stands at 2 2, pole 0 at 3 2.
                    stepTo(e, 0, c, r, Math.abs(c - 2) + Math.abs(r - 2) <= reach);
                    stepTo(e, 1, c, r, Math.abs(c - 3) + Math.abs(r - 2) <= reach);
                }
            }
        }
    }

    private static void stepTo(Edge e, int pole, int c, int r, boolean near) {
        if (near) {
            e.yes(1, "step", 0, pole, c, r).then(c, "pole", 0, pole, 0).then(r, "pole", 0, pole, 1);
        } else {
            e.no(7, "step", 0, pole, c, r);
        }
    }

    private static void stepTakes() {
        Edge e = new Edge("Terms 2, takes 1 MOMENT and one more for each 2 that the POLE is SUNK, rounded down");
        String text = "marsh 2 by 1 skin 0 soft 8 deep 30; firm 0 0; walker a at 0 0 to 0 0 weight 2 long 30;";
        for (int sunk : new int[] {0, 1, 2, 3, 4, 5, 27, 28, 29}) {
            e.on(text).after("step", 0, 1, 1, 0);
            if (sunk > 0) {
                e.after("stand", sunk);
            }
            e.yes(sunk, "pole", 0, 1, 2).then(1 + sunk / 2, "pull", 0, 1).then(1 + sunk / 2, "step", 0, 1, 0, 0);
            e.then(2 + sunk + sunk / 2, "told", 4);
        }
        e.on(text).after("step", 0, 1, 1, 0).after("stand", 30).yes(1, "told", 5).thenNo(7, "step", 0, 1, 0, 0);
    }

    private static void stepThenStands() {
        Edge e = new Edge("Terms 2, then it stands in that CELL, SUNK by 0");
        String text = "marsh 2 by 1 skin 0 soft 8 deep 30; firm 0 0; walker a at 0 0 to 0 0 weight 2 long 30;";
        for (int sunk : new int[] {1, 2, 29}) {
            e.on(text).after("step", 0, 1, 1, 0).after("stand", sunk);
            e.yes(1 + sunk / 2, "step", 0, 1, 1, 0).then(1, "pole", 0, 1, 0).then(0, "pole", 0, 1, 2).then(2, "walker", 0, 7);
            e.yes(1 + sunk / 2, "step", 0, 1, 0, 0).then(0, "pole", 0, 1, 0).then(0, "pole", 0, 1, 2).then(1, "told", 6);
        }
    }

    private static void stepFalls() {
        Edge e = new Edge("Terms 2, If he falls in them, it ends with that MOMENT, behind which the POLE stands where it stood, as SUNK as ever");
        // Both poles are sunk by 4, so that the step takes three moments; pole 0 comes to 6, 8, 10 in these.
        int[][] lengths = {{5, 1, 6}, {6, 1, 6}, {7, 2, 8}, {8, 2, 8}, {9, 3, 10}, {10, 3, 10}};
        for (int[] l : lengths) {
            e.on(two(0, 8, 30, "weight 2 long " + l[0])).after("stand", 4);
            e.yes(l[1], "step", 0, 1, 1, 0).then(4 + l[1], "told", 4).then(1, "told", 5).then(l[2], "pole", 0, 0, 2);
            e.then(0, "pole", 0, 1, 0).then(4, "pole", 0, 1, 2).then(2, "cell", 0, 0, 6);
        }
        e.on(two(0, 8, 30, "weight 2 long 11")).after("stand", 4);
        e.yes(3, "step", 0, 1, 1, 0).then(0, "told", 5).then(10, "pole", 0, 0, 2).then(1, "pole", 0, 1, 0).then(0, "pole", 0, 1, 2);
        // Somebody else who falls in them does not end it.
        e.on("marsh 2 by 1 skin 0 soft 8 deep 30; firm 0 0; walker a at 0 0 to 1 0 weight 2 long 30; walker b at 1 0 to 0 0 weight 2 long 7;");
        e.after("step", 0, 1, 1, 0).after("stand", 4);
        e.yes(3, "step", 0, 1, 0, 0).then(2, "told", 5).then(8, "told", 4).then(1, "told", 9).then(7, "pole", 1, 0, 2);
    }

    private static void stepOfEach() {
        Edge e = new Edge("Terms 2, STEP: one more for each 2 that the POLE is SUNK; if he falls in them: of each WALKER by each POLE");
        String firm = "marsh 2 by 1 skin 0 soft 8 deep 30; firm 0 0;";
        String names = "abcd";
        for (int length = 9; length <= 11; length++) {
            StringBuilder b = new StringBuilder(firm);
            for (int w = 0; w < 4; w++) {
                b.append("walker ").append(names.charAt(w)).append(" at 0 0 to 1 0 weight 2 long ").append(length).append(';');
            }
            for (int w = 0; w < 4; w++) {
                for (int pole = 0; pole < 2; pole++) {
                    // Sunk by 5: three moments for this one alone.
                    e.on(b.toString()).after("step", w, pole, 1, 0).after("stand", 5).yes(5, "pole", w, pole, 2).then(3, "pull", w, pole).then(1, "pull", w, 1 - pole);
                    e.then(3, "step", w, pole, 0, 0).then(0, "pole", w, pole, 0).then(0, "pole", w, pole, 2).then(2, "walker", w, 7).then(9, "told", 4);
                    // By his other pole this one bears 2: 7, then 9, 10 by standing, or he falls.
                    e.yes(1, "step", w, 1 - pole, 0, 0).then(7, "pole", w, pole, 2).then(1, "step", w, 1 - pole, 0, 0).then(9, "pole", w, pole, 2);
                    e.then(length == 9 ? 1 << w : 0, "told", 5).then(length == 9 ? 0 : length == 10 ? 1 << w : 0, "stand", 1);
                    e.then(length == 11 ? 0 : 1 << w, "told", 5);
                    // In the first of the moments of a step he falls.
                    e.on(b.toString()).after("step", w, pole, 1, 0).after("step", w, 1 - pole, 1, 0).after("stand", length - 3);
                    e.yes(length - 1, "pole", w, pole, 2).then(length - 3, "pole", w, 1 - pole, 2).then(1, "step", w, 1 - pole, 0, 0);
                    e.then(1 << w, "told", 5).then(length - 3, "pole", w, 1 - pole, 2).then(1, "pole", w, 1 - pole, 0);
                }
            }
        }
    }

    private static void stand() {
        Edge e = new Edge("Terms 2, STAND: MOMENTS go by with all POLES standing").on(two(99, 8, 30, "weight 3"));
        for (int n : new int[] {1, 2, 24}) {
            e.yes(0, "stand", n).then(n, "told", 4).then(99 - 4 * n, "cell", 0, 0, 0).then(0, "walker", 0, 7);
        }
    }

    private static void handReach() {
        Edge e = new Edge("Terms 2, HAND: no FARTHER .. than the lesser REACH of both");
        for (int mine = 1; mine <= 3; mine++) {
            for (int his = 1; his <= 3; his++) {
                for (int far = 0; far <= 5; far++) {
                    e.on("marsh 6 by 1 skin 9 soft 0 deep 0; walker a at 0 0 to 0 0 weight 1 reach " + mine + " load 5; walker b at " + far
                        + " 0 to 0 0 weight 1 reach " + his + ";");
                    if (far <= Math.min(mine, his)) {
                        e.yes(5, "hand", 0, 1, 5).then(0, "walker", 0, 3).then(5, "hand", 1, 0, 5).then(0, "told", 4);
                    } else {
                        e.no(7, "hand", 0, 1, 5);
                    }
                }
            }
        }
    }

    private static void handPoles() {
        Edge e = new Edge("Terms 2, HAND: some POLE of the one is no FARTHER from some POLE of the other");
        String text = "marsh 6 by 1 skin 9 soft 0 deep 0; walker a at 0 0 to 0 0 weight 1 reach 1 load 5; walker b at 3 0 to 0 0 weight 1 reach 3;";
        e.on(text).no(7, "hand", 0, 1, 1);
        for (int pole = 0; pole < 2; pole++) {
            e.on(text).after("step", 0, pole, 1, 0).no(7, "hand", 0, 1, 1);
            e.on(text).after("step", 1, pole, 2, 0).no(7, "hand", 0, 1, 1);
            for (int other = 0; other < 2; other++) {
                e.on(text).after("step", 0, pole, 1, 0).after("step", 1, other, 2, 0).yes(1, "hand", 0, 1, 1).then(4, "walker", 0, 3);
            }
            e.on(text).after("step", 1, pole, 1, 0).yes(1, "hand", 0, 1, 1);
        }
    }

    private static void handMost() {
        Edge e = new Edge("Terms 2, HAND: the other's LOAD is 20 at most");
        for (int has : new int[] {0, 1, 14, 15, 16, 20}) {
            e.on("marsh 1 by 1 skin 9 soft 0 deep 0; walker a at 0 0 to 0 0 weight 1 load 20; walker b at 0 0 to 0 0 weight 1 load " + has + ";");
            if (has <= 15) {
                e.yes(has + 5, "hand", 0, 1, 5).then(15, "walker", 0, 3);
            } else {
                e.no(7, "hand", 0, 1, 5);
            }
            if (has < 20) {
                e.yes(20, "hand", 0, 1, 20 - has).then(has, "walker", 0, 3).thenNo(7, "hand", 0, 1, 1);
            }
            if (has > 0) {
                e.no(7, "hand", 0, 1, 21 - has);
            }
        }
    }

    private static void plank() {
        Edge e = new Edge("Terms 2, PLANK: a CELL is FIRM from now on").on(one(5, 9, 30, "weight 2 long 3"));
        e.after("stand", 1).yes(3, "cell", 0, 0, 0).then(1, "plank", 0, 0).then(1, "cell", 0, 0, 5).then(0, "stand", 99).then(3, "cell", 0, 0, 0);
        e.yes(1, "stand", 99);
    }

    private static void home() {
        Edge e = new Edge("Terms 2, HOME is a WALKER, not FALLEN, both of whose POLES stand in the CELL where he wants TO");
        e.on("marsh 2 by 2 skin 9 soft 9 deep 9; walker a at 0 0 to 1 0 weight 3 long 1;");
        e.yes(0, "told", 6).then(1, "step", 0, 0, 1, 0).then(0, "told", 6).then(1, "step", 0, 1, 1, 0).then(1, "told", 6);
        e.then(1, "send", 0, 1, 1).then(0, "told", 6).then(1, "send", 0, 0, 0).then(0, "told", 6).then(1, "send", 0, 1, 0).then(1, "told", 6);
        e.then(6, "pierce", 1, 0).then(1, "stand", 1).then(1, "told", 5).then(0, "told", 6);
        e.then(1, "rise", 0, 1, 0).then(1, "told", 6);
        e.yes(1, "step", 0, 1, 1, 0).then(0, "told", 6);
        // One of four, by his own bit.
        e.on("marsh 2 by 1 skin 9 soft 0 deep 0; walker a at 0 0 to 1 0 weight 1; walker b at 0 0 to 0 0 weight 1; walker c at 1 0 to 0 0 weight 1;"
            + "walker d at 1 0 to 1 0 weight 1;");
        e.yes(10, "told", 6);
    }
}
