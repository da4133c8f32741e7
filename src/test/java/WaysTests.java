/** Promises 37 to 48: ways, keys, crossings, planks, races. */
final class WaysTests {
    private WaysTests() {
    }

    public static void main(String[] args) {
        promise37();
        promise38();
        promises39And40();
        promises41And42();
        promises41And42None();
        promises43And44();
        promises43And44Ties();
        promise45();
        promise46();
        promises47And48();
        promises47And48Nothing();
        promises47And48Turns();
        Check.close("WaysTests");
    }

    private static void promise37() {
        StiltMarsh x = Check.marsh("marsh 6 by 5 skin 50 soft 9 deep 9; walker a at 0 0 to 5 4 weight 1 reach 3;"
            + "walker b at 0 0 to 5 4 weight 1; walker c at 2 2 to 2 2 weight 1; walker d at 5 0 to 0 0 weight 20 reach 2 long 1;");
        Check.fine(x, "37: 9 by 3, and one", x.way(0), 4);
        Check.fine(x, "37: 9 and one", x.way(1), 10);
        Check.fine(x, "37: home", x.way(2), 0);
        Check.fine(x, "37: 5 by 2, rounded up, and one", x.way(3), 4);
        x.step(2, 0, 2, 3);
        Check.fine(x, "37: one pole is away", x.way(2), 1);
        x.step(2, 1, 2, 3);
        Check.fine(x, "37: both are away", x.way(2), 2);
        x.step(0, 0, 2, 1);
        Check.fine(x, "37: by the nearer pole", x.way(0), 3);
        x.pierce(5, 0);
        x.stand(1);
        Check.fine(x, "37: d fell", x.told(5), 8);
        Check.fine(x, "37: as if not", x.way(3), 4);
        Check.refused(x, "37: walker 4", x.way(4), 1);
        Check.refused(x, "37: walker -1", x.way(-1), 1);
    }

    private static void promise38() {
        StiltMarsh x = Check.marsh("marsh 6 by 5 skin 5 soft 9 deep 9; walker a at 0 0 to 5 4 weight 1 reach 3;"
            + "walker b at 0 0 to 5 4 weight 1 reach 2;");
        Check.fine(x, "38: the same", x.wayFrom(0, 1, 1, 1, 1), 0);
        Check.fine(x, "38: 3", x.wayFrom(0, 0, 0, 3, 0), 2);
        Check.fine(x, "38: 4", x.wayFrom(0, 0, 0, 3, 1), 3);
        Check.fine(x, "38: 9", x.wayFrom(1, 5, 4, 0, 0), 6);
        Check.refused(x, "38: walker 2", x.wayFrom(2, 0, 0, 0, 0), 1);
        Check.refused(x, "38: column 6", x.wayFrom(0, 6, 0, 0, 0), 1);
        Check.refused(x, "38: row -1", x.wayFrom(0, 0, -1, 0, 0), 1);
        Check.refused(x, "38: to column -1", x.wayFrom(0, 0, 0, -1, 0), 1);
        Check.refused(x, "38: to row 5", x.wayFrom(0, 0, 0, 0, 5), 1);
    }

    private static void promises39And40() {
        StiltMarsh x = Check.marsh("marsh 5 by 1 skin 9 soft 9 deep 9; walker a at 0 0 to 4 0 weight 1;"
            + "walker b at 0 0 to 4 0 weight 1 reach 2; walker c at 2 0 to 2 0 weight 1; walker d at 3 0 to 1 0 weight 1;");
        Check.fine(x, "39: all between", x.keys(0), 3);
        int[] want = {0, 1, 1, 1, 0};
        for (int c = 0; c < 5; c++) {
            Check.fine(x, "40: cell " + c, x.isKey(0, c, 0), want[c]);
            Check.fine(x, "40: none for a reach of 2", x.isKey(1, c, 0), 0);
            Check.fine(x, "40: none for who is home", x.isKey(2, c, 0), 0);
            Check.fine(x, "40: the one between", x.isKey(3, c, 0), c == 2 ? 1 : 0);
        }
        Check.fine(x, "39: reach 2", x.keys(1), 0);
        Check.fine(x, "39: home", x.keys(2), 0);
        x.step(0, 0, 1, 0);
        Check.fine(x, "39: none where a pole stands", x.keys(0), 2);
        Check.fine(x, "40: none where a pole stands", x.isKey(0, 1, 0), 0);
        Check.refused(x, "39: walker 4", x.keys(4), 1);
        Check.refused(x, "39: walker -1", x.keys(-1), 1);
        Check.refused(x, "40: walker 4", x.isKey(4, 0, 0), 1);
        Check.refused(x, "40: column 5", x.isKey(0, 5, 0), 1);
        Check.refused(x, "40: row 1", x.isKey(0, 0, 1), 1);
        x = Check.marsh("marsh 5 by 2 skin 9 soft 9 deep 9; walker a at 0 0 to 4 0 weight 1;");
        Check.fine(x, "39: there is another way round", x.keys(0), 0);
    }

    private static void promises41And42() {
        StiltMarsh x = Check.marsh("marsh 2 by 1 skin 0 soft 8 deep 20; walker a at 0 0 to 1 0 weight 2 long 20;");
        x.step(0, 1, 0, 0);
        x.step(0, 1, 0, 0);
        // Pole 0 is sunk by 4. By pole 0 first: 3 moments, pole 1 is sunk by 6 then: 4 more. By pole 1 first: 1 and 4.
        Check.fine(x, "41: soonest", x.soonest(0, 2), 5);
        Check.fine(x, "42: by pole 1", x.soonestAt(0, 2, 0), 1);
        Check.fine(x, "42: column", x.soonestAt(0, 2, 1), 1);
        Check.fine(x, "42: row", x.soonestAt(0, 2, 2), 0);
        Check.fine(x, "41: three do no better", x.soonest(0, 3), 5);
        Check.refused(x, "41: one is too few", x.soonest(0, 1), 6);
        Check.refused(x, "42: one is too few", x.soonestAt(0, 1, 0), 6);
        Check.fine(x, "41: nothing changed", x.told(4), 2);
        x.step(0, 1, 1, 0);
        Check.fine(x, "41: one step more", x.soonest(0, 1), 4);
        Check.fine(x, "42: one step more", x.soonestAt(0, 1, 0), 0);
        x.step(0, 0, 1, 0);
        Check.fine(x, "41: home", x.soonest(0, 1), 0);
        Check.refused(x, "42: no step", x.soonestAt(0, 1, 0), 6);
        // Of several by row, then column: the first of all cells from which both can go on.
        x = Check.marsh("marsh 3 by 3 skin 90 soft 0 deep 0; walker a at 0 2 to 2 0 weight 1 reach 2;");
        Check.fine(x, "41: three moments", x.soonest(0, 3), 3);
        Check.fine(x, "42: pole", x.soonestAt(0, 3, 0), 0);
        Check.fine(x, "42: column", x.soonestAt(0, 3, 1), 0);
        Check.fine(x, "42: row", x.soonestAt(0, 3, 2), 0);
    }

    private static void promises41And42None() {
        StiltMarsh x = Check.marsh("marsh 4 by 1 skin 0 soft 9 deep 9; firm 2 0; walker a at 0 0 to 1 0 weight 8 long 5;"
            + "walker b at 2 0 to 3 0 weight 8; walker c at 2 0 to 3 0 weight 8 long 9;");
        Check.refused(x, "41: n 0", x.soonest(0, 0), 1);
        Check.refused(x, "41: n 4", x.soonest(0, 4), 1);
        Check.refused(x, "41: walker 3", x.soonest(3, 1), 1);
        Check.refused(x, "42: what -1", x.soonestAt(0, 1, -1), 1);
        Check.refused(x, "42: what 3", x.soonestAt(0, 1, 3), 1);
        Check.refused(x, "42: n 4", x.soonestAt(0, 4, 0), 1);
        Check.refused(x, "42: walker -1", x.soonestAt(-1, 1, 0), 1);
        Check.refused(x, "43: n 0", x.sparing(0, 0), 1);
        Check.refused(x, "43: n 4", x.sparing(0, 4), 1);
        Check.refused(x, "43: walker 3", x.sparing(3, 1), 1);
        Check.refused(x, "44: what -1", x.sparingAt(0, 1, -1), 1);
        Check.refused(x, "44: what 3", x.sparingAt(0, 1, 3), 1);
        Check.refused(x, "44: n 0", x.sparingAt(0, 0, 0), 1);
        Check.refused(x, "44: walker 4", x.sparingAt(4, 1, 0), 1);
        // The first step alone makes a fall; b's second one is pulled from where he stands firm, bearing on 3 0.
        Check.refused(x, "41: he would fall", x.soonest(0, 3), 6);
        Check.refused(x, "42: he would fall", x.soonestAt(0, 3, 0), 6);
        Check.refused(x, "43: he would fall", x.sparing(0, 3), 6);
        Check.refused(x, "44: he would fall", x.sparingAt(0, 3, 0), 6);
        Check.fine(x, "41: b sinks by 9, short of 10", x.soonest(1, 2), 2);
        Check.refused(x, "41: c sinks by 9 and falls", x.soonest(2, 3), 6);
        Check.fine(x, "41: a falls", x.stand(2), 1);
        Check.refused(x, "41: fallen", x.soonest(0, 3), 7);
        Check.refused(x, "42: fallen", x.soonestAt(0, 3, 0), 7);
        Check.refused(x, "43: fallen", x.sparing(0, 3), 7);
        Check.refused(x, "44: fallen", x.sparingAt(0, 3, 0), 7);
        Check.refused(x, "42: 1 comes first", x.soonestAt(0, 3, 3), 1);
        x.send(0, 0, 0);
        Check.refused(x, "41: fallen is not home", x.soonest(0, 3), 7);
    }

    private static void promises43And44() {
        StiltMarsh x = Check.marsh("marsh 2 by 1 skin 9 soft 0 deep 0; mends 3; walker a at 0 0 to 1 0 weight 4;");
        // 9 less 4 below the pole that stays, 4 below the one ahead, while 3 mend behind.
        Check.fine(x, "43: sparing", x.sparing(0, 2), 13);
        Check.fine(x, "43: three do no better", x.sparing(0, 3), 13);
        Check.refused(x, "43: too few", x.sparing(0, 1), 6);
        Check.refused(x, "44: too few", x.sparingAt(0, 1, 0), 6);
        Check.fine(x, "44: pole", x.sparingAt(0, 2, 0), 0);
        Check.fine(x, "44: column", x.sparingAt(0, 2, 1), 1);
        Check.fine(x, "44: row", x.sparingAt(0, 2, 2), 0);
        Check.fine(x, "43: nothing changed", x.told(7), 18);
        x.step(0, 0, 1, 0);
        x.step(0, 1, 1, 0);
        Check.fine(x, "43: it comes to that", x.told(7), 13);
        Check.fine(x, "43: home", x.sparing(0, 1), 13);
        Check.refused(x, "44: no step", x.sparingAt(0, 1, 1), 6);
        // The way round by firm ground spares the skin that the soonest wears.
        x = Check.marsh("marsh 3 by 2 skin 20 soft 0 deep 0; firm 0 0; firm 1 1; firm 2 0; walker a at 0 0 to 2 0 weight 10 reach 2;");
        Check.fine(x, "41: soonest", x.soonest(0, 3), 2);
        Check.fine(x, "43: all that is not firm", x.sparing(0, 3), 60);
        Check.fine(x, "44: from firm to firm", x.sparingAt(0, 3, 1), 0);
        Check.fine(x, "44: the first of all that are as good", x.sparingAt(0, 3, 2), 0);
    }

    private static void promises43And44Ties() {
        // Only by a third step, while which his own cell mends below nobody, more skin is left.
        StiltMarsh x = Check.marsh("marsh 2 by 1 skin 9 soft 0 deep 0; mends 3; firm 1 0; walker a at 0 0 to 1 0 weight 4;");
        Check.fine(x, "43: by two", x.sparing(0, 2), 8);
        Check.fine(x, "43: by three", x.sparing(0, 3), 9);
        Check.fine(x, "44: pole", x.sparingAt(0, 3, 0), 0);
        Check.fine(x, "44: column", x.sparingAt(0, 3, 1), 1);
        Check.fine(x, "41: soonest is by two", x.soonest(0, 3), 2);
    }

    private static void promise45() {
        StiltMarsh x = Check.marsh("marsh 5 by 1 skin 9 soft 9 deep 9; firm 2 0; walker a at 0 0 to 4 0 weight 1;"
            + "walker b at 0 0 to 4 0 weight 1 reach 2; walker c at 3 0 to 3 0 weight 1; walker d at 0 0 to 2 0 weight 1 reach 2;");
        Check.fine(x, "45: 1, 3, 4", x.planks(0), 3);
        Check.fine(x, "45: 4 alone", x.planks(1), 1);
        Check.fine(x, "45: where he stands is not asked", x.planks(2), 0);
        Check.fine(x, "45: a firm goal", x.planks(3), 0);
        x.step(0, 1, 1, 0);
        Check.fine(x, "45: from either pole", x.planks(0), 2);
        x.plank(4, 0);
        Check.fine(x, "45: 3 alone", x.planks(0), 1);
        x.plank(3, 0);
        Check.fine(x, "45: none", x.planks(0), 0);
        Check.refused(x, "45: walker 4", x.planks(4), 1);
        Check.refused(x, "45: walker -1", x.planks(-1), 1);
        x = Check.marsh("marsh 3 by 3 skin 9 soft 9 deep 9; firm 0 1; firm 0 2; firm 1 2; firm 2 2; firm 2 1; walker a at 0 0 to 2 0 weight 1;");
        Check.fine(x, "45: the long way round", x.planks(0), 1);
    }

    private static void promise46() {
        StiltMarsh x = new StiltMarsh();
        Check.refused(x, "46: no walkers", x.mostPlanks(), 6);
        x = Check.marsh("marsh 5 by 1 skin 9 soft 9 deep 9;");
        Check.refused(x, "46: no walkers", x.mostPlanks(), 6);
        x = Check.marsh("marsh 5 by 1 skin 0 soft 9 deep 9; walker a at 0 0 to 1 0 weight 1; walker b at 0 0 to 4 0 weight 20 long 1;"
            + "walker c at 0 0 to 0 0 weight 1;");
        Check.fine(x, "46: b", x.mostPlanks(), 4);
        x.stand(1);
        Check.fine(x, "46: fallen, too", x.mostPlanks(), 4);
        x.send(1, 0, 0);
        Check.fine(x, "46: a", x.mostPlanks(), 1);
        x.plank(1, 0);
        Check.fine(x, "46: none", x.mostPlanks(), 0);
    }

    private static void promises47And48() {
        StiltMarsh x = Check.marsh("marsh 6 by 2 skin 90 soft 0 deep 0; walker a at 0 0 to 4 0 weight 1;"
            + "walker b at 1 1 to 5 1 weight 1 reach 2;");
        // Ways: a 5, b 3.
        Check.fine(x, "47: a goes on by one", x.race(0, 1, 1), -1);
        Check.fine(x, "48: pole", x.raced(0, 1, 1, 0), 0);
        Check.fine(x, "48: column", x.raced(0, 1, 1, 1), 1);
        Check.fine(x, "48: row", x.raced(0, 1, 1, 2), 0);
        Check.fine(x, "47: then b", x.race(0, 1, 2), -2);
        Check.fine(x, "47: then a", x.race(0, 1, 3), -1);
        Check.fine(x, "48: b is the first", x.raced(1, 0, 1, 1), 3);
        Check.fine(x, "48: a is the first", x.raced(0, 1, 1, 1), 1);
        Check.fine(x, "47: b is the first", x.race(1, 0, 1), 3);
        Check.fine(x, "48: the first by row of all that are as good", x.raced(1, 0, 1, 1) * 10 + x.raced(1, 0, 1, 2), 31);
        Check.fine(x, "47: nothing changed", x.told(4), 0);
        Check.refused(x, "47: himself", x.race(1, 1, 1), 1);
        Check.refused(x, "47: walker 2", x.race(2, 1, 1), 1);
        Check.refused(x, "47: other -1", x.race(0, -1, 1), 1);
        Check.refused(x, "47: turns 0", x.race(0, 1, 0), 1);
        Check.refused(x, "47: turns 4", x.race(0, 1, 4), 1);
        Check.refused(x, "48: himself", x.raced(0, 0, 1, 0), 1);
        Check.refused(x, "48: walker -1", x.raced(-1, 0, 1, 0), 1);
        Check.refused(x, "48: other 2", x.raced(0, 2, 1, 0), 1);
        Check.refused(x, "48: turns 0", x.raced(0, 1, 0, 0), 1);
        Check.refused(x, "48: turns 4", x.raced(0, 1, 4, 0), 1);
        Check.refused(x, "48: what -1", x.raced(0, 1, 1, -1), 1);
        Check.refused(x, "48: what 3", x.raced(0, 1, 1, 3), 1);
    }

    private static void promises47And48Nothing() {
        // A moment makes a fall, so he does nothing; b would fall by nothing but a's step.
        StiltMarsh x = Check.marsh("marsh 4 by 1 skin 0 soft 9 deep 9; firm 3 0; walker a at 0 0 to 2 0 weight 20 long 5;"
            + "walker b at 3 0 to 3 0 weight 1; walker c at 0 0 to 0 0 weight 20 long 5;");
        Check.fine(x, "47: nothing", x.race(0, 1, 1), -3);
        Check.refused(x, "48: nothing", x.raced(0, 1, 1, 0), 6);
        Check.refused(x, "48: nothing", x.raced(0, 1, 1, 1), 6);
        // Any step of b makes a and c fall: both stand with two poles on broken skin.
        Check.fine(x, "47: b wins by a step onto where he stands", x.race(1, 0, 1), 50);
        Check.fine(x, "48: pole 0", x.raced(1, 0, 1, 0), 0);
        Check.fine(x, "48: column", x.raced(1, 0, 1, 1), 3);
        Check.fine(x, "47: b answers", x.race(0, 1, 2), -50);
        // Whatever a does, he is at 50: a step makes him fall, and is first of all that are as good.
        Check.fine(x, "48: a step in which he falls is as good", x.raced(0, 1, 2, 0), 0);
        Check.fine(x, "48: the first cell", x.raced(0, 1, 2, 1), 0);
        x.stand(1);
        Check.fine(x, "47: fallen ones do nothing", x.race(0, 2, 3), 0);
        Check.refused(x, "48: fallen ones do nothing", x.raced(0, 2, 3, 0), 6);
        Check.fine(x, "47: 50 less nothing", x.race(1, 0, 3), 50);
        Check.fine(x, "47: the fallen one is first", x.race(0, 1, 3), -50);
        // Two who are home: a step is as good as nothing, and comes ahead of it.
        x = Check.marsh("marsh 2 by 1 skin 0 soft 0 deep 0; walker a at 1 0 to 1 0 weight 1; walker b at 0 0 to 0 0 weight 1;");
        Check.fine(x, "47: both are home", x.race(0, 1, 1), 0);
        Check.fine(x, "48: a step where he stands", x.raced(0, 1, 1, 1), 1);
    }

    private static void promises47And48Turns() {
        // a can end b's race in his second turn alone: b must waste the skin below him by a step of his own.
        StiltMarsh x = Check.marsh("marsh 3 by 1 skin 2 soft 8 deep 9; firm 0 0; walker a at 0 0 to 0 0 weight 1;"
            + "walker b at 2 0 to 1 0 weight 1 long 1;");
        Check.fine(x, "47: one turn: b's skin is gone, his poles hold", x.race(0, 1, 1), 2);
        Check.fine(x, "47: two turns: b must not step", x.race(0, 1, 2), 2);
        Check.fine(x, "47: three turns: b falls by a's second step", x.race(0, 1, 3), 50);
        Check.fine(x, "47: b first: he gets away", x.race(1, 0, 1), -1);
    }
}
