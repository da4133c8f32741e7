/** Promises 37 to 48: ways and races. One method for each promise, with the sentence it is about. */
final class EdgePromises37To48Tests {
    private static final String TWO = "marsh 4 by 3 skin 90 soft 8 deep 9; mends 2; firm 2 1; walker a at 0 0 to 2 1 weight 4 reach 2 load 5;"
        + "walker b at 1 0 to 1 0 weight 6 load 7;";
    /** Walker 1 falls by one moment; walker 0 stands firm and is home. */
    private static final String FALL = "marsh 3 by 2 skin 0 soft 9 deep 9; firm 0 0; walker a at 0 0 to 0 0 weight 4 reach 2 load 5;"
        + "walker b at 1 0 to 2 1 weight 16 long 3 load 7;";

    private EdgePromises37To48Tests() {
    }

    public static void main(String[] args) {
        promise37();
        promise38();
        promise39();
        promise40();
        promise41();
        promise41Moments();
        promise42();
        promise43();
        promise43Together();
        promise44();
        promise45();
        promise46();
        promise47();
        promise47Best();
        promise48();
        promise48Nothing();
        Check.close("EdgePromises37To48Tests");
    }

    private static void promise37() {
        Edge e = new Edge("Promise 37: WAY: STEPS (1; 6: none)").on(TWO).no(1, "way", -1).no(1, "way", 2).no(1, "way", Integer.MAX_VALUE).no(1, "way", Integer.MIN_VALUE);
        e.yes(3, "way", 0).yes(0, "way", 1).then(1, "step", 1, 0, 1, 1).then(1, "way", 1).then(1, "step", 1, 1, 1, 1).then(2, "way", 1);
        e.on(FALL).yes(3, "way", 1).after("stand", 1).yes(3, "way", 1).after("send", 1, 1, 0).yes(0, "way", 1);
        e.on("marsh 1 by 1 skin 0 soft 0 deep 0; walker a at 0 0 to 0 0 weight 1;").yes(0, "way", 0);
        // The longest: corner to corner by a reach of 1.
        e.on("marsh 6 by 5 skin 0 soft 0 deep 0; walker a at 0 4 to 5 0 weight 1;").yes(10, "way", 0).till(9999).yes(10, "way", 0);
    }

    private static void promise38() {
        Edge e = new Edge("Promise 38: WAY from both POLES in a CELL to another one for a WALKER's REACH (1; 6)").on(TWO);
        e.ranges("wayFrom", Edge.of(0, 1, 1, 2, 2), Edge.of(0, 1), Edge.of(0, 3), Edge.of(0, 2), Edge.of(0, 3), Edge.of(0, 2));
        e.yes(0, "wayFrom", 0, 3, 2, 3, 2).then(2, "wayFrom", 0, 0, 0, 1, 0).then(2, "wayFrom", 0, 0, 0, 2, 0).then(3, "wayFrom", 0, 0, 0, 2, 1).then(3, "wayFrom", 0, 0, 0, 2, 2);
        e.then(4, "wayFrom", 0, 0, 0, 3, 2).then(6, "wayFrom", 1, 0, 0, 3, 2).then(6, "wayFrom", 1, 3, 2, 0, 0).then(2, "wayFrom", 1, 1, 1, 1, 2);
        // Where he stands and whether he is FALLEN does not matter.
        e.on(FALL).yes(4, "wayFrom", 1, 0, 0, 2, 1).after("stand", 1).yes(4, "wayFrom", 1, 0, 0, 2, 1).then(3, "wayFrom", 0, 0, 0, 2, 1);
    }

    private static void promise39() {
        Edge e = new Edge("Promise 39: How many KEYS there are (1; 6: no WAY)").on(TWO).no(1, "keys", -1).no(1, "keys", 2).yes(0, "keys", 0).yes(0, "keys", 1);
        for (int to = 0; to < 6; to++) {
            e.on("marsh 6 by 1 skin 0 soft 9 deep 9; walker a at 0 0 to " + to + " 0 weight 20 long 1;").yes(Math.max(0, to - 1), "keys", 0).after("stand", 1);
            e.yes(Math.max(0, to - 1), "keys", 0);
        }
    }

    private static void promise40() {
        Edge e = new Edge("Promise 40: 1 if a CELL is a KEY, else 0 (1; 6: no WAY)").on(TWO).ranges("isKey", Edge.of(0, 1, 1), Edge.of(0, 1), Edge.of(0, 3), Edge.of(0, 2));
        e.on("marsh 6 by 1 skin 0 soft 9 deep 9; walker a at 1 0 to 4 0 weight 1;");
        long[] want = {0, 0, 1, 1, 0, 0};
        for (int c = 0; c < 6; c++) {
            e.yes(want[c], "isKey", 0, c, 0);
        }
    }

    private static void promise41() {
        Edge e = new Edge("Promise 41: SOONEST by at most n (1 to 3) STEPS: MOMENTS (0: he is HOME) (1; 7: FALLEN; 6: none)").on(TWO);
        e.ranges("soonest", Edge.of(0, 3), Edge.of(0, 1), Edge.of(1, 3)).no(6, "soonest", 0, 1).no(6, "soonest", 0, 2).yes(3, "soonest", 0, 3);
        for (int n = 1; n <= 3; n++) {
            e.on(TWO).yes(0, "soonest", 1, n).on(FALL).yes(0, "soonest", 0, n).no(6, "soonest", 1, n).after("stand", 1).no(7, "soonest", 1, n).yes(0, "soonest", 0, n);
            // FALLEN in the cell where he wants TO: not HOME.
            e.after("send", 1, 1, 0).no(7, "soonest", 1, n);
        }
        e.on(TWO).yes(3, "soonest", 0, 3).then(0, "told", 4).then(0, "walker", 0, 7).then(990, "told", 7);
    }

    private static void promise41Moments() {
        Edge e = new Edge("Promise 41: MOMENTS of all its STEPS together");
        String text = "marsh 2 by 1 skin 0 soft 8 deep 30; firm 0 0; walker a at 0 0 to 0 0 weight 2 long 30;";
        // A pole at 1 0, sunk by so much, is all that has to come home.
        for (int sunk : new int[] {1, 2, 3, 28, 29}) {
            e.on(text).after("step", 0, 1, 1, 0).after("stand", sunk);
            for (int n = 1; n <= 3; n++) {
                e.yes(1 + sunk / 2, "soonest", 0, n).then(1, "soonestAt", 0, n, 0).then(0, "soonestAt", 0, n, 1);
            }
        }
        e.on(text).after("step", 0, 1, 1, 0).after("stand", 30).no(7, "soonest", 0, 3);
    }

    private static void promise42() {
        Edge e = new Edge("Promise 42: Of the first STEP of that, what 0: the POLE, 1: the column, 2: the row (1; 7; 6: none, no STEP)").on(TWO);
        e.ranges("soonestAt", Edge.of(0, 3, 1), Edge.of(0, 1), Edge.of(1, 3), Edge.of(0, 2));
        e.no(6, "soonestAt", 0, 2, 0).no(6, "soonestAt", 0, 1, 2).yes(0, "soonestAt", 0, 3, 0).yes(1, "soonestAt", 0, 3, 1).yes(0, "soonestAt", 0, 3, 2);
        for (int what = 0; what <= 2; what++) {
            e.on(TWO).no(6, "soonestAt", 1, 3, what).on(FALL).no(6, "soonestAt", 0, 1, what).no(6, "soonestAt", 1, 3, what).after("stand", 1).no(7, "soonestAt", 1, 3, what);
        }
    }

    private static void promise43() {
        Edge e = new Edge("Promise 43: SPARING by at most n STEPS: SKIN that is left in all CELLS (1; 7; 6)").on(TWO);
        e.ranges("sparing", Edge.of(0, 3), Edge.of(0, 1), Edge.of(1, 3)).no(6, "sparing", 0, 1).no(6, "sparing", 0, 2);
        for (int n = 1; n <= 3; n++) {
            e.on(TWO).yes(990, "sparing", 1, n).on(FALL).yes(0, "sparing", 0, n).no(6, "sparing", 1, n).after("stand", 1).no(7, "sparing", 1, n);
            e.after("send", 1, 1, 0).no(7, "sparing", 1, n);
        }
        // b wears 14 a moment; a 9 at 0 0, which mends by 2 twice, and 9 at a cell between, which mends once; 2 1 is firm.
        e.on(TWO).yes(990 - 3 * 14 - 9 + 4 - 9 + 2, "sparing", 0, 3).then(990, "told", 7).then(0, "told", 4);
    }

    private static void promise43Together() {
        Edge e = new Edge("Promise 43: SKIN that is left in all CELLS: none, one, all of it");
        // What is FIRM does not count, where he wants TO neither.
        e.on("marsh 2 by 1 skin 9 soft 0 deep 0; firm 0 0; firm 1 0; walker a at 0 0 to 1 0 weight 1;").yes(0, "sparing", 0, 2).after("rot", 0, 0).yes(8, "sparing", 0, 2);
        e.on("marsh 2 by 1 skin 1 soft 0 deep 0; walker a at 0 0 to 1 0 weight 1;").yes(0, "sparing", 0, 2).yes(0, "sparing", 0, 3);
        e.on("marsh 2 by 1 skin 2 soft 0 deep 0; walker a at 0 0 to 1 0 weight 1;").yes(2, "sparing", 0, 2).yes(2, "sparing", 0, 3);
        e.on("marsh 2 by 1 skin 2 soft 0 deep 0; mends 1; walker a at 0 0 to 1 0 weight 1;").yes(3, "sparing", 0, 2).yes(3, "sparing", 0, 3);
    }

    private static void promise44() {
        Edge e = new Edge("Promise 44: Of its first STEP, what as in soonestAt() (1; 7; 6: none, no STEP)").on(TWO);
        e.ranges("sparingAt", Edge.of(0, 3, 1), Edge.of(0, 1), Edge.of(1, 3), Edge.of(0, 2));
        e.no(6, "sparingAt", 0, 2, 0).no(6, "sparingAt", 0, 1, 2).yes(0, "sparingAt", 0, 3, 0);
        for (int what = 0; what <= 2; what++) {
            e.on(TWO).no(6, "sparingAt", 1, 3, what).on(FALL).no(6, "sparingAt", 0, 1, what).no(6, "sparingAt", 1, 3, what).after("stand", 1).no(7, "sparingAt", 1, 3, what);
        }
        // Soonest by 1 0, which is first by row; the most skin is left by 0 1, which is firm.
        String land = "marsh 2 by 2 skin 9 soft 0 deep 0; firm 0 0; firm 1 1; firm 0 1; walker a at 0 0 to 1 1 weight 4;";
        e.on(land).yes(3, "soonest", 0, 3).then(1, "soonestAt", 0, 3, 1).then(0, "soonestAt", 0, 3, 2);
        e.yes(9, "sparing", 0, 3).then(0, "sparingAt", 0, 3, 0).then(0, "sparingAt", 0, 3, 1).then(1, "sparingAt", 0, 3, 2);
    }

    private static void promise45() {
        Edge e = new Edge("Promise 45: PLANKS: how many (1)").on(FALL).ranges("planks", Edge.of(1), Edge.of(0, 1)).yes(0, "planks", 0).yes(2, "planks", 1).after("stand", 1).yes(2, "planks", 1);
        // None, all: from corner to corner.
        e.on("marsh 6 by 5 skin 0 soft 0 deep 0; walker a at 0 0 to 5 4 weight 1; walker b at 5 4 to 5 4 weight 1;").yes(9, "planks", 0).then(0, "planks", 1);
        e.after("plank", 5, 4).yes(8, "planks", 0).then(0, "planks", 1).after("plank", 0, 0).yes(8, "planks", 0);
        e.on("marsh 1 by 1 skin 0 soft 0 deep 0; walker a at 0 0 to 0 0 weight 1;").yes(0, "planks", 0);
    }

    private static void promise46() {
        Edge e = new Edge("Promise 46: The most PLANKS that any WALKER needs (6: no WALKERS)").onNew().no(6, "mostPlanks");
        e.on("marsh 6 by 5 skin 0 soft 0 deep 0;").no(6, "mostPlanks");
        e.on("marsh 6 by 1 skin 0 soft 0 deep 0; walker a at 0 0 to 0 0 weight 1;").yes(0, "mostPlanks");
        StringBuilder b = new StringBuilder("marsh 6 by 1 skin 0 soft 0 deep 0;");
        for (int w = 0; w < 4; w++) {
            b.append("walker ").append("abcd".charAt(w)).append(" at 0 0 to ").append(w).append(" 0 weight 1;");
            e.on(b.toString()).yes(w, "mostPlanks");
        }
        for (int w = 0; w < 4; w++) {
            e.on(b.toString()).after("send", w, 5, 0).yes(5, "mostPlanks");
        }
    }

    private static void promise47() {
        Edge e = new Edge("Promise 47: RACE: what it comes to; STATUS tells NONE from -1 (1: one and himself, too)").on(TWO);
        for (int n = 1; n <= 3; n++) {
            e.no(1, "race", 0, 0, n).no(1, "race", 1, 1, n).no(1, "race", 2, 0, n).no(1, "race", 0, 2, n).no(1, "race", -1, 0, n).no(1, "race", 0, -1, n);
        }
        e.no(1, "race", 0, 1, 0).no(1, "race", 0, 1, 4).no(1, "race", 0, 1, -1).no(1, "race", 0, 1, Integer.MAX_VALUE);
        // Ways 3 and 0: a goes on by one, b is home.
        e.yes(-2, "race", 0, 1, 1).then(-2, "race", 0, 1, 2).then(-1, "race", 0, 1, 3).then(0, "told", 4).then(3, "race", 1, 0, 1).then(2, "race", 1, 0, 2);
        e.on("marsh 6 by 2 skin 90 soft 0 deep 0; walker a at 0 0 to 5 0 weight 1; walker b at 0 1 to 4 1 weight 1;").yes(0, "race", 0, 1, 1).then(-1, "race", 0, 1, 2);
    }

    private static void promise47Best() {
        Edge e = new Edge("Promise 47: the first wants it great, the second little");
        // Any moment makes b fall, who stands on broken skin; a is firm: he does something at once.
        String land = "marsh 6 by 1 skin 0 soft 9 deep 30; firm 0 0; firm 1 0; firm 2 0; walker a at 0 0 to 2 0 weight 1; walker b at 5 0 to 5 0 weight 20 long 1;";
        e.on(land).yes(48, "race", 0, 1, 1).then(48, "race", 0, 1, 2).then(49, "race", 0, 1, 3);
        // b does nothing, as long as he can; then a makes him fall.
        e.yes(3, "race", 1, 0, 1).then(-48, "race", 1, 0, 2).then(-48, "race", 1, 0, 3);
        // The least and the most: 50 and nothing.
        e.on(FALL).after("stand", 1).yes(50, "race", 0, 1, 1).then(-50, "race", 1, 0, 1).then(50, "race", 0, 1, 3).then(-50, "race", 1, 0, 3);
    }

    private static void promise48() {
        Edge e = new Edge("Promise 48: RACED, what 0: the POLE, 1: the column, 2: the row (1; 6: nothing is done)").on(TWO);
        for (int what = -1; what <= 3; what++) {
            e.no(1, "raced", 0, 0, 1, what).no(1, "raced", 2, 0, 1, what).no(1, "raced", 0, -1, 1, what).no(1, "raced", 0, 1, 0, what).no(1, "raced", 0, 1, 4, what);
        }
        for (int n = 1; n <= 3; n++) {
            e.no(1, "raced", 0, 1, n, -1).no(1, "raced", 0, 1, n, 3).no(1, "raced", 0, 1, n, Integer.MAX_VALUE).no(1, "raced", 0, 1, n, Integer.MIN_VALUE);
            e.yes(0, "raced", 0, 1, n, 0).then(0, "told", 4);
        }
        // Within 2 of 0 0 and of 2 1: 1 0 is the first by row.
        e.yes(1, "raced", 0, 1, 1, 1).then(0, "raced", 0, 1, 1, 2);
    }

    private static void promise48Nothing() {
        Edge e = new Edge("Promise 48: (6: nothing is done)");
        for (int what = 0; what <= 2; what++) {
            // He would fall by any step; he is fallen.
            e.on(FALL).no(6, "raced", 1, 0, 1, what).after("stand", 1).no(6, "raced", 1, 0, 1, what).no(6, "raced", 1, 0, 2, what).no(6, "raced", 1, 0, 3, what);
        }
        // The same, but for poles that are one longer: he steps.
        String[] lengths = {"11", "12", "13"};
        for (String length : lengths) {
            e.on("marsh 3 by 1 skin 0 soft 8 deep 30; firm 2 0; walker a at 0 0 to 1 0 weight 12 long " + length + "; walker b at 2 0 to 2 0 weight 1;");
            if (length.equals("13")) {
                e.yes(-1, "race", 0, 1, 1).then(0, "raced", 0, 1, 1, 0).then(1, "raced", 0, 1, 1, 1);
            } else {
                e.yes(-2, "race", 0, 1, 1).thenNo(6, "raced", 0, 1, 1, 0);
            }
        }
    }
}
