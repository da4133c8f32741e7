/** Promises 17 to 36: what is done, what would be. One method for each promise, with the sentence it is about. */
final class EdgePromises17To36Tests {
    private static final String LAND = "marsh 4 by 3 skin 20 soft 8 deep 9; mends 2; firm 2 1;";
    private static final String TWO = LAND + "walker a at 0 0 to 3 2 weight 4 reach 2 load 5; walker b at 1 0 to 1 0 weight 6 load 7;";
    /** Walker 1 falls by one moment; walker 0 stands firm. */
    private static final String FALL = "marsh 3 by 2 skin 0 soft 9 deep 9; firm 0 0; walker a at 0 0 to 2 1 weight 4 reach 2 load 5;"
        + "walker b at 1 0 to 1 0 weight 16 long 3 load 7;";

    private EdgePromises17To36Tests() {
    }

    public static void main(String[] args) {
        promise17();
        promise17Late();
        promise18();
        promise18Late();
        promise18Set();
        promise19();
        promise19CanNot();
        promise20();
        promise21();
        promise22();
        promise23();
        promise24();
        promise25();
        promise26();
        promise27();
        promise28();
        promise29();
        promise30();
        promise31();
        promise32();
        promise33();
        promise34();
        promise35();
        promise36();
        Check.close("EdgePromises17To36Tests");
    }

    private static void promise17() {
        Edge e = new Edge("Promise 17: STEP: how many MOMENTS went by (1; 7: FALLEN, too FAR)").on(TWO);
        e.ranges("step", Edge.of(1, 0, 1, 0), Edge.of(0, 1), Edge.of(0, 1), Edge.of(0, 3), Edge.of(0, 2));
        e.yes(1, "step", 0, 0, 2, 0).yes(1, "step", 0, 0, 0, 2).yes(1, "step", 0, 1, 1, 1).no(7, "step", 0, 0, 3, 0).no(7, "step", 0, 0, 2, 1).no(7, "step", 1, 1, 2, 1);
        e.on(FALL).after("stand", 1).no(7, "step", 1, 0, 1, 0).no(7, "step", 1, 1, 1, 0).no(7, "step", 1, 0, 2, 1);
        // Just not fallen, and up again.
        e.on(FALL).yes(1, "step", 1, 0, 1, 0).then(2, "told", 5).thenNo(7, "step", 1, 0, 1, 0).then(1, "rise", 1, 0, 0).then(1, "step", 1, 0, 0, 0);
    }

    private static void promise17Late() {
        Edge e = new Edge("Promise 17: (4: MOMENTS beyond 9,999)");
        String text = "marsh 2 by 1 skin 0 soft 8 deep 4; walker a at 0 0 to 0 0 weight 2 long 30;";
        // Sunk by 4: three moments; by 0: one.
        e.on(text).till(9995).yes(3, "step", 0, 0, 1, 0).then(9998, "told", 4).then(1, "step", 0, 0, 1, 0).then(9999, "told", 4).thenNo(4, "step", 0, 0, 1, 0);
        e.on(text).till(9996).yes(3, "step", 0, 0, 1, 0).then(9999, "told", 4);
        e.on(text).till(9997).no(4, "step", 0, 0, 1, 0).no(4, "step", 0, 1, 0, 0);
        e.on(text).till(9998).no(4, "step", 0, 0, 1, 0).after("rise", 0, 0, 0);
        e.on(text).till(9999).no(4, "step", 0, 0, 1, 0);
        // Of each WALKER by each POLE: this one alone is sunk by 4, his other one takes one moment.
        StringBuilder b = new StringBuilder("marsh 2 by 1 skin 0 soft 8 deep 30; firm 0 0;");
        for (int w = 0; w < 4; w++) {
            b.append("walker ").append("abcd".charAt(w)).append(" at 0 0 to 0 0 weight 2 long 30;");
        }
        for (int w = 0; w < 4; w++) {
            for (int pole = 0; pole < 2; pole++) {
                e.on(b.toString()).till(9991).after("step", w, pole, 1, 0).after("stand", 4).yes(3, "step", w, pole, 0, 0).then(9999, "told", 4);
                e.on(b.toString()).till(9992).after("step", w, pole, 1, 0).after("stand", 4).no(4, "step", w, pole, 0, 0).yes(1, "step", w, 1 - pole, 0, 0);
                e.on(b.toString()).till(9993).after("step", w, pole, 1, 0).after("stand", 4).no(4, "step", w, pole, 0, 0).yes(1, "step", w, 1 - pole, 0, 0);
            }
        }
    }

    private static void promise18() {
        Edge e = new Edge("Promise 18: STAND so many MOMENTS (1 to 99) (1)").on(TWO).ranges("stand", Edge.of(50), Edge.of(1, 99));
        for (int n : new int[] {1, 2, 98, 99}) {
            e.on(LAND).yes(0, "stand", n).then(n, "told", 4);
        }
        e.onNew().yes(0, "stand", 99).then(99, "told", 4);
    }

    private static void promise18Late() {
        Edge e = new Edge("Promise 18: (4: beyond 9,999)");
        for (int left : new int[] {0, 1, 2, 98, 99, 100}) {
            e.on(FALL).till(9999 - left);
            for (int n : new int[] {1, 2, 98, 99}) {
                if (n <= left) {
                    e.yes(0, "stand", n).then(9999 - left + n, "told", 4);
                } else {
                    e.no(4, "stand", n);
                }
            }
        }
    }

    private static void promise18Set() {
        Edge e = new Edge("Promise 18: the set of WALKERS who fell in them");
        // By 1, 2, 3 and 4 a moment, poles as long as 12: in the 12th, 6th, 4th, 3rd.
        String text = "marsh 1 by 1 skin 0 soft 8 deep 30; walker a at 0 0 to 0 0 weight 2 long 12; walker b at 0 0 to 0 0 weight 4 long 12;"
            + "walker c at 0 0 to 0 0 weight 6 long 12; walker d at 0 0 to 0 0 weight 8 long 12;";
        long[] by = {0, 0, 0, 8, 12, 12, 14, 14, 14, 14, 14, 14, 15, 15};
        for (int n = 1; n <= 13; n++) {
            e.on(text).yes(by[n], "stand", n).then(by[n], "told", 5);
            // Only who fell in them, not who was fallen.
            e.then(15 - by[n], "stand", 12);
        }
        e.yes(15, "stand", 99).then(0, "stand", 99);
    }

    private static void promise19() {
        Edge e = new Edge("Promise 19: HAND so much (1 to 20): LOAD of the other one then (1: one and himself, too)").on(TWO);
        e.ranges("hand", Edge.of(0, 1, 1), Edge.of(0, 0), Edge.of(1, 1), Edge.of(1, 20));
        e.no(1, "hand", 0, 0, 1).no(1, "hand", 1, 1, 1).no(1, "hand", 2, 0, 1).no(1, "hand", 0, 2, 1).no(1, "hand", -1, 0, 1).no(1, "hand", 0, -1, 1).no(1, "hand", 2, 2, 1);
        e.yes(8, "hand", 0, 1, 1).then(4, "walker", 0, 3).yes(12, "hand", 0, 1, 5).then(0, "walker", 0, 3).yes(12, "hand", 1, 0, 7).then(0, "walker", 1, 3);
        e.on(TWO).after("pack", 0, 20).after("pack", 1, 0).yes(20, "hand", 0, 1, 20).then(0, "walker", 0, 3).then(20, "walker", 1, 3).then(20, "hand", 1, 0, 20);
        // No MOMENT goes by, the BURDENS are others then.
        e.on(TWO).yes(10, "hand", 0, 1, 3).then(0, "told", 4).then(6, "burden", 0).then(16, "burden", 1).then(12, "told", 10);
    }

    private static void promise19CanNot() {
        Edge e = new Edge("Promise 19: (7: one is FALLEN, too FAR, not so much, too much)");
        e.on(TWO).yes(12, "hand", 0, 1, 5).no(7, "hand", 0, 1, 6).yes(12, "hand", 1, 0, 7).no(7, "hand", 1, 0, 8).no(7, "hand", 0, 1, 20);
        e.on(TWO).after("pack", 1, 15).yes(20, "hand", 0, 1, 5).on(TWO).after("pack", 1, 16).no(7, "hand", 0, 1, 5).yes(20, "hand", 0, 1, 4);
        e.on(TWO).after("pack", 0, 0).no(7, "hand", 0, 1, 1).yes(1, "hand", 1, 0, 1);
        e.on(FALL).yes(8, "hand", 0, 1, 1).after("stand", 1).no(7, "hand", 0, 1, 1).no(7, "hand", 1, 0, 1).after("rise", 1, 1, 0).yes(8, "hand", 0, 1, 1);
        e.on(FALL).yes(6, "hand", 1, 0, 1).after("plank", 1, 0).after("plank", 2, 0).after("step", 1, 0, 2, 0).yes(6, "hand", 1, 0, 1);
        e.after("step", 1, 1, 2, 0).no(7, "hand", 1, 0, 1).no(7, "hand", 0, 1, 1);
    }

    private static void promise20() {
        Edge e = new Edge("Promise 20: PLANK: how many CELLS are FIRM then (1; 7: it is)").on(TWO);
        e.ranges("plank", Edge.of(1, 1), Edge.of(0, 3), Edge.of(0, 2)).no(7, "plank", 2, 1).yes(2, "plank", 3, 2).thenNo(7, "plank", 3, 2).then(3, "plank", 0, 0);
        // All but one, the last one.
        e.on("marsh 2 by 2 skin 9 soft 1 deep 1;").yes(1, "plank", 0, 0).then(2, "plank", 1, 0).then(3, "plank", 0, 1).then(4, "plank", 1, 1).thenNo(7, "plank", 1, 1);
        e.on("marsh 6 by 5 skin 9 soft 1 deep 1;");
        for (int c = 0; c < 29; c++) {
            e.after("plank", c % 6, c / 6);
        }
        e.yes(29, "told", 9).then(9, "told", 7).then(30, "plank", 5, 4).then(0, "told", 7).then(30, "told", 9).thenNo(7, "plank", 0, 0);
        e.onNew().no(1, "plank", 0, 0);
    }

    private static void promise21() {
        Edge e = new Edge("Promise 21: A CELL is FIRM no more: its SKIN is whole (1; 7: it is not FIRM)").on(TWO).after("plank", 1, 1).after("plank", 0, 0).after("plank", 3, 2);
        e.ranges("rot", Edge.of(2, 1), Edge.of(0, 3), Edge.of(0, 2)).no(7, "rot", 1, 0).yes(1, "rot", 2, 1).thenNo(7, "rot", 2, 1).then(0, "cell", 2, 1, 5);
        for (int skin : new int[] {0, 1, 98, 99}) {
            // Broken ahead of the plank, whole behind it.
            e.on("marsh 1 by 1 skin " + skin + " soft 8 deep 9;").after("pierce", 0, 0).after("plank", 0, 0).yes(0, "cell", 0, 0, 0).then(1, "rot", 0, 0).then(skin, "cell", 0, 0, 0);
            e.then(0, "told", 9).then(skin, "told", 7).then(0, "gone", 0);
        }
    }

    private static void promise22() {
        Edge e = new Edge("Promise 22: A WALKER that is FALLEN is up again: both POLES stand in a CELL, SUNK by 0 (1; 7: he is not FALLEN)").on(FALL).after("stand", 1);
        e.ranges("rise", Edge.of(1, 1, 1), Edge.of(0, 1), Edge.of(0, 2), Edge.of(0, 1)).no(7, "rise", 0, 0, 0);
        for (int c = 0; c < 3; c++) {
            for (int r = 0; r < 2; r++) {
                e.yes(1, "rise", 1, c, r).then(0, "told", 5).then(c, "pole", 1, 0, 0).then(c, "pole", 1, 1, 0).then(r, "pole", 1, 0, 1).then(r, "pole", 1, 1, 1);
                e.then(0, "pole", 1, 0, 2).then(0, "pole", 1, 1, 2).then(1, "told", 4).then(7, "walker", 1, 3).thenNo(7, "rise", 1, c, r);
            }
        }
        e.yes(1, "rise", 1, 1, 0).then(2, "told", 6).then(0, "walker", 1, 7).on(FALL).no(7, "rise", 1, 1, 0);
    }

    private static void promise23() {
        Edge e = new Edge("Promise 23: A WALKER's LOAD is so much (0 to 20): how much it was (1; 7: FALLEN)").on(FALL);
        e.ranges("pack", Edge.of(0, 3), Edge.of(0, 1), Edge.of(0, 20));
        for (int load : new int[] {0, 1, 19, 20}) {
            e.yes(5, "pack", 0, load).then(load, "walker", 0, 3).then(4 + load, "burden", 0).then(load, "pack", 0, 5).then(5, "walker", 0, 3);
        }
        e.yes(5, "pack", 0, 5).yes(7, "pack", 1, 0).after("stand", 1).no(7, "pack", 1, 0).no(7, "pack", 1, 7).no(1, "pack", 1, 21).after("rise", 1, 0, 0).yes(7, "pack", 1, 20);
    }

    private static void promise24() {
        Edge e = new Edge("Promise 24: A WALKER wants TO another CELL (1)").on(TWO).ranges("send", Edge.of(1, 1, 1), Edge.of(0, 1), Edge.of(0, 3), Edge.of(0, 2));
        e.yes(1, "send", 0, 0, 0).then(3, "told", 6).then(0, "walker", 0, 4).then(0, "walker", 0, 5).then(1, "walker", 1, 4).yes(1, "send", 0, 3, 2).then(3, "walker", 0, 4);
        e.then(2, "walker", 0, 5).then(2, "told", 6).yes(1, "send", 1, 0, 0).then(0, "told", 6);
        e.on(FALL).after("stand", 1).yes(1, "send", 1, 2, 1).then(2, "walker", 1, 4).then(1, "walker", 1, 5);
    }

    private static void promise25() {
        Edge e = new Edge("Promise 25: MENDS from now on (0 to 9) (1)").on(TWO).ranges("weather", Edge.of(5), Edge.of(0, 9)).onNew().ranges("weather", Edge.of(5), Edge.of(0, 9));
        for (int mends : new int[] {0, 1, 8, 9}) {
            e.on(TWO).after("pierce", 3, 2).after("stand", 1).yes(2, "cell", 3, 2, 0).then(1, "weather", mends).then(mends, "told", 3).then(2, "cell", 3, 2, 0).then(0, "stand", 1);
            e.then(2 + mends, "cell", 3, 2, 0);
        }
    }

    private static void promise26() {
        Edge e = new Edge("Promise 26: A CELL's SKIN is broken: how much it was (1; 7: FIRM)").on(TWO).ranges("pierce", Edge.of(1, 1), Edge.of(0, 3), Edge.of(0, 2));
        e.no(7, "pierce", 2, 1).yes(20, "pierce", 0, 0).then(0, "cell", 0, 0, 0).then(20, "cell", 0, 0, 1).then(1, "told", 8).then(0, "pierce", 0, 0).then(20, "gone", 0);
        for (int skin : new int[] {0, 1, 98, 99}) {
            e.on("marsh 1 by 1 skin " + skin + " soft 8 deep 9;").yes(skin, "pierce", 0, 0).then(0, "pierce", 0, 0).then(1, "plank", 0, 0).thenNo(7, "pierce", 0, 0);
            e.then(1, "rot", 0, 0).then(skin, "pierce", 0, 0);
        }
    }

    private static void promise27() {
        Edge e = new Edge("Promise 27: FAR: how FAR two CELLS are (1)").on(TWO).ranges("far", Edge.of(1, 1, 1, 1), Edge.of(0, 3), Edge.of(0, 2), Edge.of(0, 3), Edge.of(0, 2));
        e.yes(0, "far", 3, 2, 3, 2).yes(5, "far", 0, 0, 3, 2).yes(5, "far", 3, 0, 0, 2).yes(1, "far", 1, 1, 1, 2).yes(1, "far", 1, 1, 0, 1);
        e.on("marsh 1 by 1 skin 1 soft 1 deep 1;").yes(0, "far", 0, 0, 0, 0).no(1, "far", 1, 0, 0, 0).no(1, "far", 0, 0, 0, 1).onNew().no(1, "far", 0, 0, 0, 0);
    }

    private static void promise28() {
        Edge e = new Edge("Promise 28: BURDEN of a WALKER (1)").on(FALL).ranges("burden", Edge.of(1), Edge.of(0, 1));
        e.yes(9, "burden", 0).yes(23, "burden", 1).after("stand", 1).yes(23, "burden", 1);
    }

    private static void promise29() {
        Edge e = new Edge("Promise 29: MOMENTS that a STEP by a POLE would take, wherever to (1)").on(FALL).ranges("pull", Edge.of(1, 1), Edge.of(0, 1), Edge.of(0, 1));
        // By 9 times 12 by 8 he sinks to 9, as deep as it is; FALLEN, too, by what it is SUNK. Pole 1 bore nothing.
        e.yes(1, "pull", 1, 0).after("stand", 1).yes(5, "pull", 1, 0).then(1, "pull", 1, 1).then(1, "pull", 0, 0);
        String text = "marsh 2 by 1 skin 0 soft 8 deep 30; walker a at 0 0 to 0 0 weight 2 long 30;";
        for (int n : new int[] {1, 2, 3, 4, 28, 29, 30, 31}) {
            e.on(text).after("stand", n).yes(1 + Math.min(30, n) / 2, "pull", 0, 0);
        }
        e.on(text).till(9999).after("rise", 0, 0, 0).yes(1, "pull", 0, 0);
    }

    private static void promise30() {
        Edge e = new Edge("Promise 30: How many CELLS a POLE could step to (where it stands, too; 0: FALLEN) (1)").on(FALL).ranges("choices", Edge.of(1, 1), Edge.of(0, 1), Edge.of(0, 1));
        e.yes(4, "choices", 1, 0).after("stand", 1).yes(0, "choices", 1, 0).then(0, "choices", 1, 1).after("rise", 1, 0, 1).yes(3, "choices", 1, 1);
        e.on("marsh 1 by 1 skin 9 soft 0 deep 0; walker a at 0 0 to 0 0 weight 1 reach 3;").yes(1, "choices", 0, 0).then(1, "choices", 0, 1);
        int[][] corners = {{3, 6, 10}, {5, 13, 22}};
        for (int reach = 1; reach <= 3; reach++) {
            e.on("marsh 6 by 5 skin 9 soft 0 deep 0; walker a at 0 0 to 0 0 weight 1 reach " + reach + "; walker b at 3 2 to 0 0 weight 1 reach " + reach + ";");
            e.yes(corners[0][reach - 1], "choices", 0, 0).then(corners[1][reach - 1], "choices", 1, 1);
        }
        // By where the other pole stands.
        e.on("marsh 6 by 1 skin 9 soft 0 deep 0; walker a at 0 0 to 0 0 weight 1;").after("step", 0, 0, 1, 0).yes(2, "choices", 0, 0).then(3, "choices", 0, 1);
    }

    private static void promise31() {
        Edge e = new Edge("Promise 31: BEARS (1)").on(FALL).ranges("bears", Edge.of(1, 1, 1), Edge.of(0, 1), Edge.of(0, 2), Edge.of(0, 1));
        e.yes(99, "bears", 1, 0, 0).yes(0, "bears", 1, 1, 0).after("stand", 1).yes(0, "bears", 1, 2, 1).then(99, "bears", 0, 2, 1).then(99, "bears", 0, 0, 0);
    }

    private static void promise32() {
        Edge e = new Edge("Promise 32: The CELL that BEARS a WALKER the least MOMENTS, as 100 times the row and the column, of several the first by row, then column (1)");
        e.on(FALL).ranges("weakest", Edge.of(1), Edge.of(0, 1)).yes(1, "weakest", 1);
        String land = "marsh 6 by 5 skin 9 soft 8 deep 30; walker a at 0 0 to 0 0 weight 3;";
        e.on(land).yes(0, "weakest", 0);
        int[][] cells = {{5, 4, 405}, {0, 4, 400}, {5, 0, 5}, {0, 1, 100}};
        for (int[] c : cells) {
            e.on(land).after("pierce", c[0], c[1]).yes(c[2], "weakest", 0);
        }
        // Of several by row, then column.
        e.on(land).after("pierce", 0, 3).after("pierce", 5, 2).yes(205, "weakest", 0).then(9, "pierce", 4, 2).then(204, "weakest", 0);
        // One that bears 98 or 97, all others 99; of 99 and more by its skin it is like them.
        for (int skin = 88; skin <= 91; skin++) {
            e.on("marsh 2 by 2 skin 0 soft 0 deep 0; cell 1 1 skin " + skin + " soft 8 deep 30; walker a at 0 0 to 0 0 weight 1;");
            e.yes(Math.min(99, skin + 9), "bears", 0, 1, 1).then(skin <= 89 ? 101 : 0, "weakest", 0);
        }
        // A cell that bears as long by other numbers is as weak; all that bear 99 are alike.
        e.on("marsh 2 by 2 skin 0 soft 8 deep 30; cell 0 0 skin 1; walker a at 0 0 to 0 0 weight 5;").yes(1, "weakest", 0);
        e.on("marsh 2 by 2 skin 6 soft 8 deep 30; cell 0 0 skin 9; walker a at 0 0 to 0 0 weight 5;").yes(0, "weakest", 0);
        e.on("marsh 2 by 2 skin 0 soft 8 deep 9; firm 0 0; walker a at 0 0 to 0 0 weight 5;").yes(0, "weakest", 0);
        e.on("marsh 1 by 1 skin 0 soft 8 deep 9; firm 0 0; walker a at 0 0 to 0 0 weight 5;").yes(0, "weakest", 0);
    }

    private static void promise33() {
        Edge e = new Edge("Promise 33: By how much a POLE would be SUNK, if all STAND so many MOMENTS (0 to 99; 9,999 does not matter) (1)").on(TWO);
        e.ranges("sunkIn", Edge.of(1, 1, 50), Edge.of(0, 1), Edge.of(0, 1), Edge.of(0, 99));
        String text = "marsh 1 by 1 skin 94 soft 8 deep 30; walker a at 0 0 to 0 0 weight 2 long 30;";
        // By two a moment the skin of 94 is gone in 47 moments; then one a moment.
        e.on(text).yes(0, "sunkIn", 0, 0, 0).then(0, "sunkIn", 0, 0, 47).then(1, "sunkIn", 0, 0, 48).then(29, "sunkIn", 0, 0, 76).then(30, "sunkIn", 0, 0, 77);
        e.then(30, "sunkIn", 0, 0, 78).then(30, "sunkIn", 0, 0, 99).then(29, "sunkIn", 0, 1, 77).then(29, "sunkIn", 0, 1, 99).then(0, "told", 4).then(94, "cell", 0, 0, 0);
        // Of each WALKER, each POLE: in his own cell, by his own weight; pole 1 stands firm.
        String four = "marsh 4 by 2 skin 0 soft 8 deep 30; firm 0 1; firm 1 1; firm 2 1; firm 3 1; walker a at 0 1 to 0 0 weight 2 long 30;"
            + "walker b at 1 1 to 0 0 weight 4 long 30; walker c at 2 1 to 0 0 weight 6 long 30; walker d at 3 1 to 0 0 weight 8 long 30;";
        for (int pole = 0; pole < 2; pole++) {
            for (int w = 0; w < 4; w++) {
                e.on(four).after("step", w, pole, w, 0);
                for (int other = 0; other < 4; other++) {
                    e.yes(other == w ? 3 * (w + 1) : 0, "sunkIn", other, pole, 3).then(0, "sunkIn", other, 1 - pole, 3);
                }
            }
        }
        for (int moment : new int[] {9998, 9999}) {
            e.on("marsh 1 by 1 skin 3 soft 8 deep 30; firm 0 0; walker a at 0 0 to 0 0 weight 2 long 30;").till(moment).after("rot", 0, 0);
            e.yes(0, "sunkIn", 0, 0, 0).then(0, "sunkIn", 0, 0, 2).then(1, "sunkIn", 0, 1, 2).then(1, "sunkIn", 0, 0, 3).then(28, "sunkIn", 0, 0, 30).then(moment, "told", 4);
        }
    }

    private static void promise34() {
        Edge e = new Edge("Promise 34: In how many MOMENTS of STANDING (1 to 99) a WALKER falls (0: he is FALLEN) (1; 6: not in 99)");
        e.on(FALL).no(1, "fallsIn", -1).no(1, "fallsIn", 2).no(6, "fallsIn", 0).yes(1, "fallsIn", 1).after("stand", 1).yes(0, "fallsIn", 1);
        // One pole stands firm, the other one bears 1 a moment: the skin and ten more.
        for (int skin : new int[] {0, 1, 87, 88, 89, 90, 99}) {
            e.on("marsh 2 by 1 skin " + skin + " soft 8 deep 30; firm 0 0; walker a at 0 0 to 0 0 weight 2;").after("step", 0, 1, 1, 0);
            if (skin + 10 <= 99) {
                e.yes(skin + 10, "fallsIn", 0).then(0, "told", 5).then(1, "told", 4);
                e.then(0, "stand", skin + 9).then(1, "fallsIn", 0).then(1, "stand", 1).then(0, "fallsIn", 0);
            } else {
                e.no(6, "fallsIn", 0);
            }
        }
        // As deep as long, one less.
        e.on("marsh 1 by 1 skin 0 soft 8 deep 10; walker a at 0 0 to 0 0 weight 2;").yes(10, "fallsIn", 0);
        e.on("marsh 1 by 1 skin 0 soft 8 deep 9; walker a at 0 0 to 0 0 weight 2;").no(6, "fallsIn", 0);
        e.on("marsh 1 by 1 skin 0 soft 8 deep 10; firm 0 0; walker a at 0 0 to 0 0 weight 2;").till(9999).after("rot", 0, 0).yes(10, "fallsIn", 0);
    }

    private static void promise35() {
        Edge e = new Edge("Promise 35: SKIN of a CELL, if all STAND so many MOMENTS (0 to 99) (1)").on(TWO);
        e.ranges("skinIn", Edge.of(1, 1, 50), Edge.of(0, 3), Edge.of(0, 2), Edge.of(0, 99));
        e.on("marsh 2 by 1 skin 99 soft 0 deep 0; mends 1; walker a at 0 0 to 0 0 weight 1;").after("pierce", 1, 0);
        e.yes(99, "skinIn", 0, 0, 0).then(97, "skinIn", 0, 0, 1).then(1, "skinIn", 0, 0, 49).then(0, "skinIn", 0, 0, 50).then(0, "skinIn", 0, 0, 99);
        e.then(0, "skinIn", 1, 0, 0).then(1, "skinIn", 1, 0, 1).then(98, "skinIn", 1, 0, 98).then(99, "skinIn", 1, 0, 99).then(0, "told", 4).then(0, "cell", 1, 0, 0);
        // Whole sooner than in 99, not beyond it.
        e.on("marsh 1 by 1 skin 50 soft 0 deep 0; mends 9;").after("pierce", 0, 0).yes(45, "skinIn", 0, 0, 5).then(50, "skinIn", 0, 0, 6).then(50, "skinIn", 0, 0, 7);
        e.on("marsh 1 by 1 skin 50 soft 0 deep 0; mends 9;").till(9999).after("pierce", 0, 0).yes(45, "skinIn", 0, 0, 5).then(50, "skinIn", 0, 0, 99).then(9999, "told", 4);
        e.on("marsh 1 by 1 skin 50 soft 0 deep 0; mends 9;").after("pierce", 0, 0).after("plank", 0, 0).yes(0, "skinIn", 0, 0, 99);
    }

    private static void promise36() {
        Edge e = new Edge("Promise 36: The set of WALKERS who can HAND a WALKER something now (LOADS do not matter; none if he is FALLEN) (1)");
        e.on(FALL).ranges("helpers", Edge.of(1), Edge.of(0, 1)).yes(2, "helpers", 0).then(1, "helpers", 1).after("stand", 1).yes(0, "helpers", 0).then(0, "helpers", 1);
        // All four in one cell; loads of 0 and 20 do not matter.
        StringBuilder b = new StringBuilder("marsh 6 by 1 skin 9 soft 0 deep 0;");
        for (int w = 0; w < 4; w++) {
            b.append("walker ").append("abcd".charAt(w)).append(" at 0 0 to 0 0 weight 1 reach 2 load ").append(w < 2 ? 0 : 20).append(";");
        }
        e.on(b.toString()).yes(14, "helpers", 0).then(13, "helpers", 1).then(11, "helpers", 2).then(7, "helpers", 3);
        // As far as can be, one farther.
        for (int far = 0; far <= 4; far++) {
            e.on("marsh 6 by 1 skin 9 soft 0 deep 0; walker a at 0 0 to 0 0 weight 1 reach 3; walker b at " + far + " 0 to 0 0 weight 1 reach 2;");
            e.yes(far <= 2 ? 2 : 0, "helpers", 0).then(far <= 2 ? 1 : 0, "helpers", 1);
        }
        e.on("marsh 1 by 1 skin 9 soft 0 deep 0; walker a at 0 0 to 0 0 weight 1;").yes(0, "helpers", 0).thenNo(1, "helpers", 1);
    }
}
