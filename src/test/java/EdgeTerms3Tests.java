/** Terms, ==== 3.: BEARS, WAY, KEY, CROSSING, PLANKS, RACE, TRACKS, LUCK. One method for each sentence. */
final class EdgeTerms3Tests {
    private EdgeTerms3Tests() {
    }

    public static void main(String[] args) {
        bearsMost();
        bearsAhead();
        bearsSunkByNought();
        bearsAlone();
        wayFewest();
        wayWhatever();
        waysOfEach();
        crossingOfEach();
        keyNot();
        keyWithout();
        crossingSteps();
        crossingNeverFallen();
        crossingOthersStand();
        crossingSoonestFirst();
        crossingSparing();
        crossingHome();
        crossingLastMoment();
        planksReach();
        planksNotAsked();
        raceTurns();
        raceNothing();
        raceFallen();
        racedFirst();
        tracksRows();
        tracksNone();
        tracksSure();
        luckSixteenths();
        Check.close("EdgeTerms3Tests");
    }

    // ---- BEARS

    private static void bearsMost() {
        Edge e = new Edge("Terms 3, BEARS: how many MOMENTS (at the most 99)");
        // By 1 a moment: the skin, then ten moments till he falls, in the last of which he does not stand any more.
        for (int skin : new int[] {0, 1, 87, 88, 89, 90, 91, 99}) {
            e.on("marsh 1 by 1 skin " + skin + " soft 8 deep 30; walker a at 0 0 to 0 0 weight 1;");
            e.yes(Math.min(99, skin + 9), "bears", 0, 0, 0);
        }
        e.on("marsh 2 by 1 skin 0 soft 0 deep 30; firm 1 0; walker a at 0 0 to 0 0 weight 20 long 1 load 20;");
        e.yes(99, "bears", 0, 0, 0).then(99, "bears", 0, 1, 0);
    }

    private static void bearsAhead() {
        Edge e = new Edge("Terms 3, BEARS: ahead of the one in which he would fall");
        // All of his 6 a moment.
        int[][] lengths = {{1, 0}, {6, 0}, {7, 1}, {12, 1}, {13, 2}, {18, 2}, {19, 3}, {30, 4}};
        for (int[] l : lengths) {
            e.on("marsh 1 by 1 skin 0 soft 8 deep 30; walker a at 0 0 to 0 0 weight 4 long " + l[0] + " load 2;");
            e.yes(l[1], "bears", 0, 0, 0);
        }
        // By SOFT times 5 by 8 a moment, rounded down: none, 1, 1, 2, .. 5; 5 long.
        int[] softs = {99, 99, 4, 4, 2, 1, 1, 1, 0, 0};
        for (int soft = 0; soft <= 9; soft++) {
            e.on("marsh 1 by 1 skin 0 soft " + soft + " deep 30; walker a at 0 0 to 0 0 weight 5 long 5;").yes(softs[soft], "bears", 0, 0, 0);
        }
        // What is left by rounding down is not kept: 7 by 8 and 15 by 8, each time.
        e.on("marsh 1 by 1 skin 0 soft 7 deep 30; walker a at 0 0 to 0 0 weight 1 long 1;").yes(99, "bears", 0, 0, 0);
        e.on("marsh 1 by 1 skin 0 soft 5 deep 30; walker a at 0 0 to 0 0 weight 3 long 30;").yes(29, "bears", 0, 0, 0);
        int[][] skins = {{0, 1}, {1, 2}, {5, 2}, {6, 2}, {7, 3}, {12, 3}, {13, 4}};
        for (int[] s : skins) {
            e.on("marsh 1 by 1 skin " + s[0] + " soft 8 deep 30; walker a at 0 0 to 0 0 weight 6;");
            e.yes(s[1], "bears", 0, 0, 0);
        }
        // As deep as the poles are long, one less, one more.
        int[][] deeps = {{9, 99}, {10, 1}, {11, 1}, {0, 99}, {30, 1}};
        for (int[] d : deeps) {
            e.on("marsh 1 by 1 skin 0 soft 8 deep " + d[0] + "; walker a at 0 0 to 0 0 weight 6;");
            e.yes(d[1], "bears", 0, 0, 0);
        }
    }

    private static void bearsSunkByNought() {
        Edge e = new Edge("Terms 3, BEARS: a POLE of a WALKER, SUNK by 0, .. in a CELL as it is now");
        e.on("marsh 1 by 1 skin 3 soft 8 deep 30; walker a at 0 0 to 0 0 weight 2;").yes(6, "bears", 0, 0, 0);
        // Skin 1 is left, then none, while his poles sink: what it bears depends on the skin alone.
        e.then(0, "stand", 1).then(5, "bears", 0, 0, 0).then(0, "stand", 1).then(4, "bears", 0, 0, 0);
        e.then(0, "stand", 5).then(4, "bears", 0, 0, 0).then(1, "stand", 9).then(4, "bears", 0, 0, 0);
        e.then(1, "plank", 0, 0).then(99, "bears", 0, 0, 0).then(1, "rot", 0, 0).then(6, "bears", 0, 0, 0);
    }

    private static void bearsAlone() {
        Edge e = new Edge("Terms 3, BEARS: could stand alone with all his BURDEN");
        String text = "marsh 2 by 1 skin 20 soft 8 deep 30; mends 9; walker a at 0 0 to 0 0 weight 5;";
        e.on(text).yes(5, "bears", 0, 0, 0).then(5, "bears", 0, 1, 0);
        e.on(text + "walker b at 0 0 to 0 0 weight 20;").yes(5, "bears", 0, 0, 0).then(1, "bears", 1, 1, 0);
        e.on(text).after("pack", 0, 20).yes(1, "bears", 0, 0, 0).then(20, "pack", 0, 5).then(2, "bears", 0, 0, 0);
    }

    // ---- WAY and KEY

    private static void wayFewest() {
        Edge e = new Edge("Terms 3, WAY: the fewest STEPS till a WALKER is HOME");
        for (int reach = 1; reach <= 3; reach++) {
            e.on("marsh 6 by 5 skin 9 soft 9 deep 9; walker a at 0 0 to 0 0 weight 1 reach " + reach + ";");
            for (int c = 0; c < 6; c++) {
                for (int r = 0; r < 5; r++) {
                    int far = c + r;
                    e.then(1, "send", 0, c, r).then(far == 0 ? 0 : (far + reach - 1) / reach + 1, "way", 0);
                }
            }
            // One pole there already; one pole as far ahead as can be.
            e.yes(1, "step", 0, 0, 0, reach).then(1, "way", 0).then(1, "send", 0, 0, reach).then(1, "way", 0);
            e.then(1, "send", 0, 1, reach).then(2, "way", 0).then(1, "send", 0, 5, 4).then((9 - reach + reach - 1) / reach + 1, "way", 0);
        }
    }

    private static void wayWhatever() {
        Edge e = new Edge("Terms 3, WAY: whatever sinks or breaks (FALLEN ones, too, as if not)");
        e.on("marsh 3 by 1 skin 0 soft 9 deep 30; walker a at 0 0 to 2 0 weight 20 long 1;").yes(3, "way", 0).then(1, "stand", 1).then(3, "way", 0);
        e.then(1, "send", 0, 0, 0).then(0, "way", 0).then(0, "told", 6).then(1, "send", 0, 1, 0).then(2, "way", 0);
    }

    /** Four walkers in one row, the poles of each apart: w's at w and w + 1. */
    private static Edge apart(Edge e, String land, String to) {
        StringBuilder b = new StringBuilder(land);
        for (int w = 0; w < 4; w++) {
            b.append("walker ").append("abcd".charAt(w)).append(" at ").append(w).append(" 0 to ").append(to).append(" weight 1;");
        }
        e.on(b.toString());
        for (int w = 0; w < 4; w++) {
            e.after("step", w, w % 2, w + 1, 0);
        }
        return e;
    }

    private static void waysOfEach() {
        Edge e = new Edge("Terms 3, WAY, KEY, PLANKS: by the POLES of his own");
        String land = "marsh 6 by 1 skin 9 soft 0 deep 0;";
        for (int w = 0; w < 4; w++) {
            // To the right end: the pole at w + 1 is nearer; to the left end: that at w.
            apart(e, land, "5 0").yes(5 - w, "way", w).then(3 - w, "keys", w).then(4 - w, "planks", w);
            for (int c = 0; c < 6; c++) {
                e.then(c > w + 1 && c < 5 ? 1 : 0, "isKey", w, c, 0);
            }
            apart(e, land, "0 0").yes(w + 1, "way", w).then(Math.max(0, w - 1), "keys", w).then(w, "planks", w);
            for (int c = 0; c < 6; c++) {
                e.then(c > 0 && c < w ? 1 : 0, "isKey", w, c, 0);
            }
            apart(e, land + "firm 2 0; firm 4 0;", "5 0").yes(new int[] {2, 2, 1, 1}[w], "planks", w);
            apart(e, land + "firm 2 0; firm 4 0;", "0 0").yes(new int[] {0, 1, 2, 2}[w], "planks", w);
        }
        // From the far corner to the first one, against the order of the cells, round about by firm ones.
        String winding = "marsh 6 by 5 skin 9 soft 0 deep 0; firm 5 3; firm 5 2; firm 4 2; firm 3 2; firm 3 3; firm 3 4; firm 2 4; firm 1 4; firm 1 3; firm 1 2;"
            + "firm 1 1; firm 0 1; firm 0 0; walker a at 5 4 to 0 0 weight 1;";
        e.on(winding).yes(0, "planks", 0).after("rot", 3, 3).yes(1, "planks", 0).after("rot", 0, 0).yes(2, "planks", 0);
        e.after("rot", 1, 4).after("rot", 1, 3).after("rot", 2, 4).yes(2, "planks", 0).after("rot", 5, 2).yes(3, "planks", 0);
    }

    private static void crossingOfEach() {
        Edge e = new Edge("Terms 3, CROSSING: of one WALKER, by the POLES of his own, by POLE 0, then POLE 1");
        String land = "marsh 6 by 1 skin 50 soft 0 deep 0;";
        for (int w = 0; w < 4; w++) {
            // His pole w % 2 stands in w + 1: to there it is one step of the other one.
            apart(e, land, "0 0").after("send", w, w + 1, 0).yes(1, "soonest", w, 1).then(1 - w % 2, "soonestAt", w, 1, 0).then(w + 1, "soonestAt", w, 1, 1);
            e.then(1 - w % 2, "sparingAt", w, 1, 0).then(w + 1, "sparingAt", w, 1, 1).then(0, "soonestAt", w, 3, 2);
            // To w likewise, by the pole that is ahead.
            apart(e, land, "0 0").after("send", w, w, 0).yes(1, "soonest", w, 2).then(w % 2, "soonestAt", w, 2, 0).then(w, "soonestAt", w, 2, 1);
            // Two cells ahead it is the pole behind, at once.
            if (w + 2 < 6) {
                apart(e, land, "0 0").after("send", w, w + 2, 0).yes(2, "soonest", w, 2).then(1 - w % 2, "soonestAt", w, 2, 0).then(w + 2, "soonestAt", w, 2, 1).thenNo(6, "soonest", w, 1);
            }
        }
    }

    private static void keyNot() {
        Edge e = new Edge("Terms 3, KEY: a CELL, not that where he wants TO, none where a POLE of his stands");
        for (int to = 0; to < 6; to++) {
            e.on("marsh 6 by 1 skin 9 soft 9 deep 9; walker a at 2 0 to " + to + " 0 weight 1;");
            e.yes(Math.max(0, Math.abs(to - 2) - 1), "keys", 0);
            for (int c = 0; c < 6; c++) {
                e.then(c > Math.min(2, to) && c < Math.max(2, to) ? 1 : 0, "isKey", 0, c, 0);
            }
        }
        e.on("marsh 6 by 1 skin 9 soft 9 deep 9; walker a at 2 0 to 5 0 weight 1;");
        e.yes(1, "step", 0, 1, 3, 0).then(1, "keys", 0).then(0, "isKey", 0, 3, 0).then(1, "isKey", 0, 4, 0).then(0, "isKey", 0, 2, 0);
        // A pole behind does not matter.
        e.yes(1, "step", 0, 0, 1, 0).then(2, "keys", 0).then(0, "isKey", 0, 2, 0).then(1, "isKey", 0, 3, 0);
        e.on("marsh 1 by 5 skin 9 soft 9 deep 9; walker a at 0 4 to 0 0 weight 1;").yes(3, "keys", 0).then(1, "isKey", 0, 0, 1).then(1, "isKey", 0, 0, 3);
    }

    private static void keyWithout() {
        Edge e = new Edge("Terms 3, KEY: without which there is no WAY");
        for (int reach = 1; reach <= 3; reach++) {
            e.on("marsh 6 by 1 skin 9 soft 9 deep 9; walker a at 0 0 to 5 0 weight 1 reach " + reach + ";").yes(reach == 1 ? 4 : 0, "keys", 0);
            e.on("marsh 6 by 2 skin 9 soft 9 deep 9; walker a at 0 0 to 5 0 weight 1 reach " + reach + ";").yes(0, "keys", 0);
            e.on("marsh 1 by 1 skin 9 soft 9 deep 9; walker a at 0 0 to 0 0 weight 1 reach " + reach + ";").yes(0, "keys", 0).then(0, "isKey", 0, 0, 0);
        }
    }

    // ---- CROSSING

    private static void crossingSteps() {
        Edge e = new Edge("Terms 3, CROSSING by at most n STEPS (1 to 3)");
        String[] calls = {"soonest", "sparing"};
        for (String call : calls) {
            for (int to = 0; to <= 3; to++) {
                e.on("marsh 4 by 1 skin 90 soft 0 deep 0; walker a at 0 0 to " + to + " 0 weight 1;");
                int steps = to == 0 ? 0 : to + 1;
                e.no(1, call, 0, 0).no(1, call, 0, 4).no(1, call + "At", 0, 0, 0).no(1, call + "At", 0, 4, 0).no(1, call, 0, -1);
                for (int n = 1; n <= 3; n++) {
                    if (n < steps) {
                        e.no(6, call, 0, n).no(6, call + "At", 0, n, 0);
                    } else {
                        e.yes(call.equals("soonest") ? steps : 360 - steps, call, 0, n);
                    }
                }
            }
        }
    }

    private static void crossingNeverFallen() {
        Edge e = new Edge("Terms 3, CROSSING: behind which he is HOME, never FALLEN");
        // From firm ground: in the second step the pole at 1 0 bears all of 8, which is as long as it may sink or one more.
        for (int length = 7; length <= 9; length++) {
            e.on("marsh 2 by 1 skin 0 soft 8 deep 30; firm 0 0; walker a at 0 0 to 1 0 weight 8 long " + length + ";");
            if (length <= 8) {
                e.no(6, "soonest", 0, 3).no(6, "sparing", 0, 3).no(6, "soonestAt", 0, 2, 0).no(6, "sparingAt", 0, 2, 0);
            } else {
                e.yes(2, "soonest", 0, 2).then(0, "sparing", 0, 2).then(2, "soonest", 0, 3);
            }
        }
        // In the first one, where he stands.
        for (int length = 7; length <= 9; length++) {
            e.on("marsh 2 by 1 skin 0 soft 8 deep 8; firm 1 0; walker a at 0 0 to 1 0 weight 8 long " + length + ";");
            if (length <= 8) {
                e.no(6, "soonest", 0, 3);
            } else {
                // Sunk by 8: five moments for the second pole.
                e.yes(6, "soonest", 0, 3);
            }
        }
    }

    private static void crossingOthersStand() {
        Edge e = new Edge("Terms 3, CROSSING: of one WALKER (nobody else steps, all others stand)");
        String land = "marsh 3 by 1 skin 20 soft 8 deep 30; firm 0 0; firm 1 0; walker a at 0 0 to 1 0 weight 1;";
        e.on(land).yes(2, "soonest", 0, 2).then(20, "sparing", 0, 2);
        e.on(land + "walker b at 2 0 to 0 0 weight 6 long 1;").yes(2, "soonest", 0, 2).then(8, "sparing", 0, 2);
        // The other one falls in them: that is no matter.
        e.on(land + "walker b at 2 0 to 0 0 weight 20 long 1 load 20;").yes(2, "soonest", 0, 2).then(0, "sparing", 0, 2).then(0, "told", 5);
    }

    private static void crossingSoonestFirst() {
        Edge e = new Edge("Terms 3, SOONEST: the fewest MOMENTS, of several the first by POLE, then row, then column of the first STEP");
        // All takes a moment each. From 1 1 to 1 0 and 1 2, 0 1 and 2 1: the first step goes there at once, or to whatever
        // leads there by three.
        int[][] goals = {{1, 0}, {0, 1}, {2, 1}, {1, 2}};
        for (int[] g : goals) {
            e.on("marsh 3 by 3 skin 90 soft 0 deep 0; walker a at 1 1 to " + g[0] + " " + g[1] + " weight 1;");
            for (int n = 2; n <= 3; n++) {
                e.yes(2, "soonest", 0, n).then(0, "soonestAt", 0, n, 0).then(g[0], "soonestAt", 0, n, 1).then(g[1], "soonestAt", 0, n, 2);
            }
        }
        // By row ahead of column: 2 0 comes ahead of 0 1 and 1 1, all of which are half way from 0 0 to 2 2 by a reach of 2.
        e.on("marsh 3 by 3 skin 90 soft 0 deep 0; walker a at 0 0 to 2 2 weight 1 reach 2;");
        e.yes(3, "soonest", 0, 3).then(2, "soonestAt", 0, 3, 1).then(0, "soonestAt", 0, 3, 2);
        e.on("marsh 3 by 3 skin 90 soft 0 deep 0; walker a at 2 2 to 0 0 weight 1 reach 2;");
        e.yes(2, "soonestAt", 0, 3, 1).then(0, "soonestAt", 0, 3, 2);
        // By pole ahead of all: pole 1 alone can end it in one.
        e.on("marsh 3 by 1 skin 90 soft 0 deep 0; walker a at 0 0 to 1 0 weight 1;").after("step", 0, 0, 1, 0);
        e.yes(1, "soonest", 0, 3).then(1, "soonestAt", 0, 3, 0).then(1, "soonestAt", 0, 3, 1);
        // A pole that is sunk takes longer, so the other one goes first, though it comes later by number.
        e.on("marsh 2 by 1 skin 0 soft 8 deep 30; firm 1 0; walker a at 1 0 to 0 0 weight 2 long 30;").after("step", 0, 0, 0, 0).after("stand", 4);
        e.yes(1, "soonest", 0, 3).then(1, "soonestAt", 0, 3, 0);
        e.then(1, "send", 0, 1, 0).then(3, "soonest", 0, 3).then(0, "soonestAt", 0, 3, 0);
    }

    private static void crossingSparing() {
        Edge e = new Edge("Terms 3, SPARING: that which leaves the most SKIN in all CELLS that are not FIRM together, likewise");
        // From 0 0 to 2 0 by three: over 1 0 his pole wears there, so much the weight, and nowhere else.
        e.on("marsh 3 by 1 skin 20 soft 0 deep 0; firm 0 0; firm 2 0; walker a at 0 0 to 2 0 weight 7;");
        e.yes(13, "sparing", 0, 3).then(0, "sparingAt", 0, 3, 0).then(1, "sparingAt", 0, 3, 1).then(0, "sparingAt", 0, 3, 2).thenNo(6, "sparing", 0, 2);
        e.on("marsh 3 by 1 skin 20 soft 0 deep 0; firm 0 0; firm 1 0; firm 2 0; walker a at 0 0 to 2 0 weight 7;").yes(0, "sparing", 0, 3);
        // Two ways round: the worn one, though first by row, is left where the other leaves more.
        String two = "marsh 2 by 2 skin 9 soft 0 deep 0; firm 0 0; firm 1 1; walker a at 0 0 to 1 1 weight 4 reach 1;";
        e.on(two).yes(14, "sparing", 0, 3).then(1, "sparingAt", 0, 3, 1).then(0, "sparingAt", 0, 3, 2);
        e.on(two).after("pierce", 0, 1).yes(9, "sparing", 0, 3).then(0, "sparingAt", 0, 3, 1).then(1, "sparingAt", 0, 3, 2);
        e.on(two).after("pierce", 1, 0).yes(9, "sparing", 0, 3).then(1, "sparingAt", 0, 3, 1).then(0, "sparingAt", 0, 3, 2);
    }

    private static void crossingHome() {
        Edge e = new Edge("Terms 3, (No STEP is needed by who is HOME. It ends where he is HOME first.)");
        e.on("marsh 2 by 1 skin 20 soft 0 deep 0; mends 9; walker a at 0 0 to 0 0 weight 1;").after("pierce", 1, 0);
        for (int n = 1; n <= 3; n++) {
            // By a step more the skin at 1 0 would mend.
            e.yes(0, "soonest", 0, n).then(20, "sparing", 0, n).thenNo(6, "soonestAt", 0, n, 0).thenNo(6, "sparingAt", 0, n, 2);
        }
        e.yes(1, "send", 0, 1, 0).then(2, "soonest", 0, 3).then(1, "soonestAt", 0, 3, 1);
    }

    private static void crossingLastMoment() {
        Edge e = new Edge("Terms 3, CROSSING: 9,999 does not matter");
        e.on("marsh 2 by 1 skin 90 soft 0 deep 0; mends 9; walker a at 0 0 to 1 0 weight 1;");
        e.yes(2, "soonest", 0, 2).then(179, "sparing", 0, 2);
        for (int moment : new int[] {9997, 9998, 9999}) {
            e.on("marsh 2 by 1 skin 90 soft 0 deep 0; mends 9; firm 0 0; firm 1 0; walker a at 0 0 to 1 0 weight 1;").till(moment);
            e.after("rot", 0, 0).after("rot", 1, 0);
            e.yes(2, "soonest", 0, 2).then(179, "sparing", 0, 2).then(0, "soonestAt", 0, 2, 0).then(1, "sparingAt", 0, 2, 1).then(moment, "told", 4);
        }
    }

    // ---- PLANKS

    private static void planksReach() {
        Edge e = new Edge("Terms 3, PLANKS: each no FARTHER than REACH from the one ahead");
        for (int reach = 1; reach <= 3; reach++) {
            for (int to = 0; to < 6; to++) {
                e.on("marsh 6 by 1 skin 9 soft 9 deep 9; walker a at 0 0 to " + to + " 0 weight 1 reach " + reach + ";");
                e.yes((to + reach - 1) / reach, "planks", 0);
            }
            e.on("marsh 6 by 5 skin 9 soft 9 deep 9; walker a at 0 0 to 5 4 weight 1 reach " + reach + ";").yes((9 + reach - 1) / reach, "planks", 0);
            // A firm cell as far as can be, and one farther.
            e.on("marsh 6 by 1 skin 9 soft 9 deep 9; firm " + reach + " 0; firm 5 0; walker a at 0 0 to " + reach + " 0 weight 1 reach " + reach + ";");
            e.yes(0, "planks", 0);
            e.on("marsh 6 by 1 skin 9 soft 9 deep 9; firm " + (reach + 1) + " 0; walker a at 0 0 to " + (reach + 1) + " 0 weight 1 reach " + reach + ";");
            e.yes(1, "planks", 0);
        }
    }

    private static void planksNotAsked() {
        Edge e = new Edge("Terms 3, PLANKS: from a CELL where a POLE of his stands (that itself is not asked) to that where he wants TO");
        e.on("marsh 4 by 1 skin 9 soft 9 deep 9; walker a at 0 0 to 0 0 weight 1;").yes(0, "planks", 0).then(1, "send", 0, 1, 0).then(1, "planks", 0);
        e.then(1, "plank", 1, 0).then(0, "planks", 0).then(1, "send", 0, 3, 0).then(2, "planks", 0);
        e.then(1, "step", 0, 0, 1, 0).then(2, "planks", 0).then(1, "step", 0, 1, 2, 0).then(1, "planks", 0).then(1, "step", 0, 0, 3, 0).then(0, "planks", 0);
        e.then(1, "step", 0, 0, 2, 0).then(1, "planks", 0).then(2, "plank", 3, 0).then(0, "planks", 0);
    }

    // ---- RACE

    private static void raceTurns() {
        Edge e = new Edge("Terms 3, RACE of n turns (1 to 3): two WALKERS by turns, the first first");
        e.on("marsh 6 by 2 skin 90 soft 0 deep 0; walker a at 0 0 to 5 0 weight 1; walker b at 0 1 to 5 1 weight 1;");
        e.no(1, "race", 0, 1, 0).no(1, "race", 0, 1, 4).no(1, "raced", 0, 1, 0, 0).no(1, "raced", 0, 1, 4, 0);
        e.yes(1, "race", 0, 1, 1).then(0, "race", 0, 1, 2).then(1, "race", 0, 1, 3);
        e.yes(1, "race", 1, 0, 1).then(0, "race", 1, 0, 2).then(1, "race", 1, 0, 3).then(0, "told", 4);
        // He who is home gains nothing more; the other one goes on.
        e.on("marsh 6 by 2 skin 90 soft 0 deep 0; walker a at 0 0 to 0 0 weight 1; walker b at 0 1 to 5 1 weight 1;");
        e.yes(6, "race", 0, 1, 1).then(5, "race", 0, 1, 2).then(5, "race", 0, 1, 3).then(-5, "race", 1, 0, 1).then(-4, "race", 1, 0, 3);
    }

    private static void raceNothing() {
        Edge e = new Edge("Terms 3, RACE: do a STEP or nothing (no MOMENT goes by for nothing)");
        // Any moment makes both fall, so he who is ahead does nothing: what is now is the end.
        e.on("marsh 4 by 1 skin 0 soft 9 deep 30; walker a at 1 0 to 3 0 weight 20 long 1; walker b at 0 0 to 3 0 weight 20 long 1;");
        e.yes(1, "race", 0, 1, 1).thenNo(6, "raced", 0, 1, 1, 0).thenNo(6, "raced", 0, 1, 1, 1).thenNo(6, "raced", 0, 1, 1, 2);
        // For who is behind it is better that both fall. As good as that nothing would be, it comes last.
        e.yes(0, "race", 1, 0, 1).then(0, "raced", 1, 0, 1, 0).then(0, "raced", 1, 0, 1, 1);
        e.on("marsh 6 by 1 skin 0 soft 9 deep 30; walker a at 0 0 to 0 0 weight 20 long 1; walker b at 1 0 to 1 0 weight 20 long 1;");
        e.yes(0, "race", 0, 1, 1).then(0, "raced", 0, 1, 1, 0).then(0, "raced", 0, 1, 1, 1);
    }

    private static void raceFallen() {
        Edge e = new Edge("Terms 3, RACE: WAY of the second less WAY of the first (who is FALLEN: 50)");
        String land = "marsh 6 by 1 skin 0 soft 9 deep 30; firm 0 0; firm 1 0; walker a at 0 0 to 0 0 weight 1;";
        e.on(land + "walker b at 5 0 to 5 0 weight 20 long 1;").after("stand", 1);
        for (int n = 1; n <= 3; n++) {
            e.yes(50, "race", 0, 1, n).then(-50, "race", 1, 0, n).thenNo(6, "raced", 1, 0, n, 0);
        }
        // Not fallen yet: he falls by any step of the first one.
        e.on(land + "walker b at 5 0 to 5 0 weight 20 long 1;").yes(50, "race", 0, 1, 1).then(0, "race", 1, 0, 1);
        e.on(land + "walker b at 5 0 to 5 0 weight 20 long 1; walker c at 4 0 to 0 0 weight 20 long 1;").after("stand", 1);
        for (int n = 1; n <= 3; n++) {
            e.yes(0, "race", 1, 2, n).thenNo(6, "raced", 1, 2, n, 1);
        }
    }

    private static void racedFirst() {
        Edge e = new Edge("Terms 3, RACED: of all that are as good by POLE, then row, then column; nothing comes last");
        // Both are home: any step to where the pole stands is as good as nothing.
        e.on("marsh 2 by 2 skin 90 soft 0 deep 0; walker a at 1 1 to 1 1 weight 1; walker b at 0 0 to 0 0 weight 1;");
        for (int n = 1; n <= 2; n++) {
            e.yes(0, "raced", 0, 1, n, 0).then(1, "raced", 0, 1, n, 1).then(1, "raced", 0, 1, n, 2);
        }
        // Of three turns the first of his two may lead away by a step, if the second brings him back: 1 0 comes first by row.
        e.yes(0, "raced", 0, 1, 3, 0).then(1, "raced", 0, 1, 3, 1).then(0, "raced", 0, 1, 3, 2);
        e.yes(0, "race", 0, 1, 1).then(0, "race", 0, 1, 2).then(0, "race", 0, 1, 3);
        // By row ahead of column: 1 0 ahead of 0 1.
        e.on("marsh 2 by 2 skin 90 soft 0 deep 0; walker a at 0 0 to 1 1 weight 1; walker b at 0 0 to 0 0 weight 1;");
        e.yes(0, "raced", 0, 1, 1, 0).then(1, "raced", 0, 1, 1, 1).then(0, "raced", 0, 1, 1, 2).then(-2, "race", 0, 1, 1);
        // By pole 1 alone.
        e.on("marsh 2 by 2 skin 90 soft 0 deep 0; walker a at 0 0 to 1 0 weight 1; walker b at 0 0 to 0 0 weight 1;").after("step", 0, 0, 1, 0);
        e.yes(1, "raced", 0, 1, 1, 0).then(1, "raced", 0, 1, 1, 1).then(0, "raced", 0, 1, 1, 2).then(0, "race", 0, 1, 1);
    }

    // ---- TRACKS and LUCK

    private static Edge written(Edge e, long... numbers) {
        for (int i = 0; i < numbers.length; i++) {
            e.after("write", 0, i, numbers[i]);
        }
        return e;
    }

    private static String crowd(int rows, int walkers) {
        StringBuilder b = new StringBuilder("marsh 1 by " + rows + " skin 9 soft 9 deep 9;");
        for (int w = 0; w < walkers; w++) {
            b.append("walker ").append("abcd".charAt(w)).append(" at 0 0 to 0 0 weight 20 load 20;");
        }
        return b.toString();
    }

    private static void tracksRows() {
        Edge e = new Edge("Terms 3, TRACKS by a TRAY: of each ROW the BURDENS together of those who crossed along it");
        long[][] trays = {{0, 0, 0, 0, 0, 1}, {40, 0, 0, 0, 0, 4}, {0, 0, 0, 0, 40, 4}, {40, 40, 40, 40, 0, 24}, {160, 0, 0, 0, 0, 1},
            {80, 80, 0, 0, 0, 6}, {80, 40, 40, 0, 0, 12}, {120, 0, 40, 0, 0, 4}, {40, 40, 40, 40, 40, 0}, {200, 0, 0, 0, 0, 0},
            {39, 0, 0, 0, 0, 0}, {41, 0, 0, 0, 0, 0}, {-40, 0, 0, 0, 0, 0}, {1, 0, 0, 0, 0, 0}, {-1, 0, 0, 0, 0, 0}};
        for (long[] t : trays) {
            written(e.on(crowd(5, 4)).after("tray", 0, 2, 5), t[0], t[1], t[2], t[3], t[4]).yes(t[5], "tracks", 0);
            if (t[5] == 0) {
                e.no(6, "sure", 0);
            }
        }
        // Places behind the rows do not matter, nor do numbers that are far too great.
        written(e.on(crowd(2, 4)).after("tray", 0, 3, 3), 40, 80, 7).yes(12, "tracks", 0);
        written(e.on(crowd(2, 4)).after("tray", 0, 3, 2), (1L << 32) + 40, 0).yes(0, "tracks", 0);
        written(e.on(crowd(2, 4)).after("tray", 0, 3, 2), Long.MIN_VALUE, Long.MAX_VALUE).yes(0, "tracks", 0);
    }

    private static void tracksNone() {
        Edge e = new Edge("Terms 3, TRACKS: each along one ROW, or none");
        for (int walkers = 0; walkers <= 4; walkers++) {
            e.on(crowd(1, walkers)).after("tray", 0, 2, 1).yes(1, "tracks", 0).then(0, "sure", 0);
            written(e.on(crowd(1, walkers)).after("tray", 0, 2, 1), 40).yes(walkers, "tracks", 0);
            written(e.on(crowd(1, walkers)).after("tray", 0, 2, 1), 40L * walkers).yes(1, "tracks", 0).then((1 << walkers) - 1, "sure", 0);
            written(e.on(crowd(1, walkers)).after("tray", 0, 2, 1), 40L * walkers + 40).yes(0, "tracks", 0).thenNo(6, "sure", 0);
        }
        // Without rows all is as told.
        e.onNew().after("tray", 0, 2, 0).yes(1, "tracks", 0).then(0, "sure", 0);
    }

    private static void tracksSure() {
        Edge e = new Edge("Terms 3, SURE: who crossed in all of these");
        String text = "marsh 1 by 2 skin 9 soft 9 deep 9; walker a at 0 0 to 0 0 weight 3; walker b at 0 0 to 0 0 weight 2; walker c at 0 0 to 0 0 weight 1;";
        long[][] trays = {{3, 0, 2, 0}, {6, 0, 1, 7}, {5, 0, 1, 3}, {3, 3, 2, 7}, {4, 0, 1, 5}, {1, 0, 1, 4}, {2, 1, 1, 6}, {0, 2, 1, 2}, {0, 0, 1, 0}};
        for (long[] t : trays) {
            written(e.on(text).after("tray", 0, 0, 2), t[0], t[1]).yes(t[2], "tracks", 0).then(t[3], "sure", 0);
        }
        // By loads, too: they are part of the BURDEN as it is now.
        written(e.on(text).after("tray", 0, 0, 2).after("pack", 2, 20), 21, 0).yes(4, "sure", 0).then(1, "tracks", 0);
    }

    private static void luckSixteenths() {
        Edge e = new Edge("Terms 3, LUCK of a ROW: each that is not FIRM by ODDS sixteenths");
        long[][] odds = {{0, 0, 1}, {1, 1, 16}, {2, 1, 8}, {8, 1, 2}, {15, 15, 16}, {16, 1, 1}};
        for (long[] o : odds) {
            e.on("marsh 1 by 1 skin 9 soft 9 deep 9; cell 0 0 odds " + o[0] + ";").yes(1, "luck", 0).tells(o[1], "top").tells(o[2], "bottom");
            e.then(1, "plank", 0, 0).then(1, "luck", 0).tells(1, "top").tells(1, "bottom");
        }
        StringBuilder six = new StringBuilder("marsh 6 by 2 skin 9 soft 9 deep 9;");
        for (int c = 0; c < 6; c++) {
            six.append("cell ").append(c).append(" 1 odds 15;");
        }
        e.on(six.toString()).yes(1, "luck", 1).tells(11390625, "top").tells(16777216, "bottom").then(1, "luckiest");
        e.then(1, "luck", 0).tells(1, "top").tells(64, "bottom");
        e.on("marsh 6 by 1 skin 9 soft 9 deep 9; cell 0 0 odds 0; firm 0 0; cell 1 0 odds 1;").yes(1, "luck", 0).tells(1, "top").tells(256, "bottom");
        e.on("marsh 6 by 1 skin 9 soft 9 deep 9; cell 5 0 odds 0; firm 0 0; cell 1 0 odds 1;").yes(1, "luck", 0).tells(0, "top").tells(1, "bottom");
    }
}
