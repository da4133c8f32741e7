/** Promises 17 to 26: what is done, and how moments go by. */
final class DeedsTests {
    private DeedsTests() {
    }

    public static void main(String[] args) {
        promise17();
        promise17Falls();
        promise17AirPole();
        promise17Refusals();
        promise18();
        promise18Mends();
        promise18Order();
        promise18Last();
        promise19();
        promise20();
        promise21();
        promise22();
        promise23();
        promise24();
        promise25();
        promise26();
        Check.close("DeedsTests");
    }

    private static void duePole(StiltMarsh x, String what, int walker, int pole, int column, int row, int sunk) {
        Check.fine(x, what + ": column", x.pole(walker, pole, 0), column);
        Check.fine(x, what + ": row", x.pole(walker, pole, 1), row);
        Check.fine(x, what + ": sunk", x.pole(walker, pole, 2), sunk);
    }

    private static void promise17() {
        StiltMarsh x = Check.marsh("marsh 3 by 2 skin 5 soft 8 deep 9; walker a at 0 0 to 2 0 weight 3 reach 2;"
            + "walker b at 2 1 to 2 0 weight 5;");
        Check.fine(x, "17: a step", x.step(0, 1, 1, 1), 1);
        duePole(x, "17: it stands there", 0, 1, 1, 1, 0);
        duePole(x, "17: the other one stays", 0, 0, 0, 0, 0);
        Check.fine(x, "17: all of the burden", x.cell(0, 0, 0), 2);
        Check.fine(x, "17: where it came to bears later", x.cell(1, 1, 0), 5);
        Check.fine(x, "17: the others bear half, rounded up", x.cell(2, 1, 0), 0);
        Check.fine(x, "17: moment 1", x.told(4), 1);
        Check.fine(x, "17: counted", x.walker(0, 7), 1);
        // Pole 0 bears 2 in skin 2; b sinks by 8 times 3 by 8.
        Check.fine(x, "17: stand", x.stand(1), 0);
        Check.fine(x, "17: sunk", x.pole(1, 0, 2), 3);
        Check.fine(x, "17: sunk", x.pole(1, 1, 2), 3);
        Check.fine(x, "17: one and one more for each 2", x.step(1, 0, 2, 0), 2);
        duePole(x, "17: not sunk any more", 1, 0, 2, 0, 0);
        // All of b's 5 for two moments: 3, 8, 9 (no deeper than 9).
        Check.fine(x, "17: the other one sank", x.pole(1, 1, 2), 9);
        Check.fine(x, "17: moments", x.told(4), 4);
        Check.fine(x, "17: 1 and 4 of 9", x.step(1, 1, 2, 0), 5);
        Check.fine(x, "17: home", x.told(6), 2);
    }

    private static void promise17Falls() {
        StiltMarsh x = Check.marsh("marsh 3 by 1 skin 5 soft 8 deep 6; walker a at 0 0 to 2 0 weight 3 long 6;");
        x.stand(1);
        Check.fine(x, "17: 5 less 2 less 2", x.cell(0, 0, 0), 1);
        x.stand(1);
        Check.fine(x, "17: 0 at least", x.cell(0, 0, 0), 0);
        Check.fine(x, "17: the second pole sinks then", x.pole(0, 1, 2), 2);
        Check.fine(x, "17: the first did not yet", x.pole(0, 0, 2), 0);
        x.stand(1);
        // Pole 1 is sunk by 4: three moments; pole 0 sinks from 2 to 5, then to 6, as long as it is.
        Check.fine(x, "17: he falls in the second of three", x.step(0, 1, 1, 0), 2);
        Check.fine(x, "17: fallen", x.walker(0, 6), 1);
        duePole(x, "17: where it stood, as sunk as ever", 0, 1, 0, 0, 4);
        duePole(x, "17: the other one", 0, 0, 0, 0, 6);
        Check.fine(x, "17: it ended with that moment", x.told(4), 5);
        Check.fine(x, "17: no step came to an end", x.walker(0, 7), 0);
    }

    private static void promise17AirPole() {
        // Pole 1 of a is pulled out of a broken cell for 3 moments, in which that mends, for nobody stands there.
        StiltMarsh x = Check.marsh("marsh 3 by 1 skin 20 soft 4 deep 9; mends 3; firm 0 0; walker a at 0 0 to 2 0 weight 8 long 20;");
        x.step(0, 1, 1, 0);
        x.pierce(1, 0);
        x.stand(2);
        Check.fine(x, "17: sunk by 4 times 4 by 8, twice", x.pole(0, 1, 2), 4);
        Check.fine(x, "17: no mending below a pole", x.cell(1, 0, 0), 0);
        Check.fine(x, "17: three moments", x.step(0, 1, 0, 0), 3);
        Check.fine(x, "17: mended three times", x.cell(1, 0, 0), 9);
        Check.fine(x, "17: nothing comes of it on firm ground", x.pole(0, 0, 2), 0);
        // He who falls in a step: in that moment the pole is in the air still, so its cell mends.
        x = Check.marsh("marsh 2 by 1 skin 20 soft 9 deep 9; mends 3; walker a at 0 0 to 1 0 weight 8 long 8;");
        x.step(0, 1, 1, 0);
        x.pierce(0, 0);
        x.pierce(1, 0);
        Check.fine(x, "17: he falls at once", x.step(0, 1, 1, 0), 1);
        Check.fine(x, "17: fallen", x.told(5), 1);
        Check.fine(x, "17: mended below the air", x.cell(1, 0, 0), 3);
        x.stand(2);
        Check.fine(x, "17: the fallen one's poles stand", x.cell(1, 0, 0), 3);
    }

    private static void promise17Refusals() {
        StiltMarsh x = Check.marsh("marsh 4 by 2 skin 0 soft 0 deep 0; walker a at 0 0 to 3 0 weight 3 reach 2;"
            + "walker b at 3 1 to 3 0 weight 20 long 1;");
        Check.refused(x, "17: walker -1", x.step(-1, 0, 0, 0), 1);
        Check.refused(x, "17: walker 2", x.step(2, 0, 0, 0), 1);
        Check.refused(x, "17: pole -1", x.step(0, -1, 0, 0), 1);
        Check.refused(x, "17: pole 2", x.step(0, 2, 0, 0), 1);
        Check.refused(x, "17: column 4", x.step(0, 0, 4, 0), 1);
        Check.refused(x, "17: row -1", x.step(0, 0, 0, -1), 1);
        Check.refused(x, "17: too far", x.step(0, 0, 3, 0), 7);
        Check.refused(x, "17: too far", x.step(0, 0, 2, 1), 7);
        Check.fine(x, "17: nothing went by", x.told(4), 0);
        Check.fine(x, "17: as far as can be", x.step(0, 0, 1, 1), 1);
        Check.refused(x, "17: from the other pole", x.step(0, 0, 3, 1), 7);
        Check.fine(x, "17: from the other pole", x.step(0, 1, 3, 1), 1);
        x = Check.marsh("marsh 4 by 1 skin 0 soft 9 deep 9; walker b at 3 0 to 0 0 weight 20 long 1;");
        Check.fine(x, "17: b falls", x.stand(1), 1);
        Check.refused(x, "17: fallen", x.step(0, 0, 3, 0), 7);
    }

    private static void promise18() {
        StiltMarsh x = Check.marsh("marsh 4 by 1 skin 9 soft 5 deep 20; firm 3 0; cell 2 0 deep 3;"
            + "walker a at 0 0 to 0 0 weight 3 long 4; walker b at 3 0 to 0 0 weight 20 long 1 load 20;"
            + "walker c at 2 0 to 0 0 weight 20 long 4; walker d at 1 0 to 0 0 weight 8 long 5;");
        Check.refused(x, "18: 0", x.stand(0), 1);
        Check.refused(x, "18: 100", x.stand(100), 1);
        Check.refused(x, "18: -5", x.stand(-5), 1);
        Check.fine(x, "18: nothing went by", x.told(4), 0);
        Check.fine(x, "18: one", x.stand(1), 0);
        Check.fine(x, "18: a's cell", x.cell(0, 0, 0), 5);
        Check.fine(x, "18: c's cell, 0 at least", x.cell(2, 0, 0), 0);
        Check.fine(x, "18: the second pole of c sank, no further than deep", x.pole(2, 1, 2), 3);
        Check.fine(x, "18: the first did not", x.pole(2, 0, 2), 0);
        Check.fine(x, "18: d's cell", x.cell(1, 0, 0), 1);
        Check.fine(x, "18: d falls by 2, 4 and 6", x.stand(4), 8);
        // a: 5, 1, 0 and sunk by 5 times 2 by 8, which is 1, a moment.
        Check.fine(x, "18: a is up", x.told(5), 8);
        Check.fine(x, "18: a and nobody else falls", x.stand(99), 1);
        Check.fine(x, "18: moments", x.told(4), 104);
        Check.fine(x, "18: c stands at the ground, shorter than its poles", x.pole(2, 0, 2), 3);
        Check.fine(x, "18: b on firm ground", x.pole(1, 0, 2), 0);
        Check.fine(x, "18: firm ground keeps its skin", x.cell(3, 0, 0), 9);
        Check.fine(x, "18: d's poles", x.pole(3, 0, 2) + x.pole(3, 1, 2), 10);
    }

    private static void promise18Mends() {
        StiltMarsh x = Check.marsh("marsh 4 by 1 skin 10 soft 9 deep 20; mends 4; firm 3 0; cell 0 0 skin 0;"
            + "walker a at 0 0 to 0 0 weight 20 long 4;");
        x.rot(3, 0);
        x.pierce(3, 0);
        x.plank(3, 0);
        x.pierce(1, 0);
        Check.fine(x, "18: a falls", x.stand(1), 1);
        Check.fine(x, "18: mends", x.cell(1, 0, 0), 4);
        Check.fine(x, "18: firm does not mend", x.cell(3, 0, 0), 0);
        Check.fine(x, "18: whole stays", x.cell(2, 0, 0), 10);
        Check.fine(x, "18: nobody falls twice", x.stand(2), 0);
        Check.fine(x, "18: no more than whole", x.cell(1, 0, 0), 10);
        x = Check.marsh("marsh 1 by 1 skin 10 soft 9 deep 20; mends 4; walker a at 0 0 to 0 0 weight 20 long 4;");
        Check.fine(x, "18: who is fallen bears nothing, but stands", x.stand(3), 1);
        Check.fine(x, "18: no mending", x.cell(0, 0, 0), 0);
    }

    private static void promise18Order() {
        // The skin of 5 holds for a (2, 2) and b's first pole (all that is left), so that b's second one sinks.
        StiltMarsh x = Check.marsh("marsh 1 by 1 skin 5 soft 8 deep 20; walker a at 0 0 to 0 0 weight 4;"
            + "walker b at 0 0 to 0 0 weight 6 long 7;");
        x.stand(1);
        Check.fine(x, "18: a", x.pole(0, 0, 2) + x.pole(0, 1, 2), 0);
        Check.fine(x, "18: b's first", x.pole(1, 0, 2), 0);
        Check.fine(x, "18: b's second", x.pole(1, 1, 2), 3);
        Check.fine(x, "18: nobody", x.stand(1), 0);
        Check.fine(x, "18: b's second", x.pole(1, 1, 2), 6);
        Check.fine(x, "18: b falls by his second", x.stand(1), 2);
        Check.fine(x, "18: b's first bore ahead of it", x.pole(1, 0, 2), 6);
        // His first pole makes him fall, so the second one bears nothing any more.
        x = Check.marsh("marsh 1 by 1 skin 0 soft 8 deep 20; walker a at 0 0 to 0 0 weight 6 long 3;");
        Check.fine(x, "18: a falls", x.stand(1), 1);
        Check.fine(x, "18: the first", x.pole(0, 0, 2), 3);
        Check.fine(x, "18: the second", x.pole(0, 1, 2), 0);
        // Rounded down: 7 times 1 by 8 is 0, so he never sinks.
        x = Check.marsh("marsh 1 by 1 skin 0 soft 7 deep 20; walker a at 0 0 to 0 0 weight 2 long 3;");
        Check.fine(x, "18: nobody falls", x.stand(99), 0);
        Check.fine(x, "18: not sunk", x.pole(0, 0, 2), 0);
    }

    private static void promise18Last() {
        StiltMarsh x = Check.marsh("marsh 2 by 1 skin 0 soft 8 deep 4; walker a at 0 0 to 0 0 weight 2 long 9;"
            + "walker b at 0 0 to 0 0 weight 20 long 1;");
        Check.fine(x, "18: b falls", x.stand(99), 2);
        for (int i = 0; i < 100; i++) {
            x.stand(99);
        }
        Check.fine(x, "18: moment 9,999", x.told(4), 9999);
        Check.refused(x, "18: beyond 9,999", x.stand(1), 4);
        Check.refused(x, "18: 1 comes first", x.stand(0), 1);
        Check.refused(x, "17: beyond 9,999", x.step(0, 0, 1, 0), 4);
        Check.refused(x, "17: 4 comes ahead of fallen", x.step(1, 0, 1, 0), 4);
        Check.refused(x, "17: 1 comes first", x.step(0, 0, 2, 0), 1);
        Check.fine(x, "33: 9,999 does not matter", x.sunkIn(0, 0, 99), 4);
        Check.fine(x, "41: 9,999 does not matter", x.soonest(0, 3), 0);
        x.send(0, 1, 0);
        Check.fine(x, "41: 9,999 does not matter", x.soonest(0, 3), 6);
        Check.fine(x, "47: 9,999 does not matter", x.race(0, 1, 1), 49);
        Check.mornings(x, "stand 1; step a 0 1 0; any a;", 3);
        Check.fine(x, "55: all three", x.live(0), 3);
        Check.fine(x, "56: are missed", x.lived(0), 3);
        Check.fine(x, "56: no moments", x.lived(1), 0);
        // Three moments are left, which is just what the pull of 4 takes; a stand of 4 is too long.
        x = Check.marsh("marsh 2 by 1 skin 0 soft 8 deep 4; walker a at 0 0 to 0 0 weight 2 long 9;");
        for (int i = 0; i < 100; i++) {
            x.stand(99);
        }
        x.stand(96);
        Check.fine(x, "18: 9,996", x.told(4), 9996);
        x.mark();
        Check.refused(x, "18: one too many", x.stand(4), 4);
        Check.fine(x, "18: just so many", x.stand(3), 0);
        x.undo();
        Check.fine(x, "29: three", x.pull(0, 1), 3);
        Check.fine(x, "17: just so many", x.step(0, 1, 1, 0), 3);
        Check.fine(x, "17: 9,999", x.told(4), 9999);
    }

    private static void promise19() {
        StiltMarsh x = Check.marsh("marsh 6 by 2 skin 0 soft 9 deep 9; firm 0 0; firm 3 0; firm 5 0; firm 2 0; firm 1 0;"
            + "walker a at 0 0 to 5 0 weight 3 reach 3 load 6; walker b at 3 0 to 0 0 weight 3 reach 2 load 18;"
            + "walker c at 5 0 to 0 0 weight 3 reach 3; walker d at 1 1 to 0 0 weight 20 long 1 load 2;");
        Check.refused(x, "19: walker -1", x.hand(-1, 0, 1), 1);
        Check.refused(x, "19: other 4", x.hand(0, 4, 1), 1);
        Check.refused(x, "19: himself", x.hand(0, 0, 1), 1);
        Check.refused(x, "19: 0", x.hand(0, 1, 0), 1);
        Check.refused(x, "19: 21", x.hand(0, 1, 21), 1);
        Check.refused(x, "19: too far for the lesser reach", x.hand(0, 1, 1), 7);
        Check.refused(x, "19: too far for the lesser reach", x.hand(1, 0, 1), 7);
        x.step(0, 1, 2, 0);
        Check.fine(x, "19: some pole of his is near", x.hand(0, 1, 2), 20);
        Check.fine(x, "19: what he has left", x.walker(0, 3), 4);
        Check.refused(x, "19: too much", x.hand(0, 1, 1), 7);
        Check.refused(x, "19: not so much", x.hand(2, 1, 1), 7);
        Check.fine(x, "19: all that he has", x.hand(1, 2, 20), 20);
        Check.fine(x, "19: nothing left", x.walker(1, 3), 0);
        Check.refused(x, "19: not so much", x.hand(0, 1, 5), 7);
        Check.fine(x, "19: all", x.hand(0, 1, 4), 4);
        Check.fine(x, "19: d fell", x.told(5), 8);
        Check.refused(x, "19: one is fallen", x.hand(3, 0, 1), 7);
        Check.refused(x, "19: one is fallen", x.hand(1, 3, 1), 7);
        Check.fine(x, "19: no moment went by", x.told(4), 1);
        Check.fine(x, "19: all load stays", x.told(10), 26);
    }

    private static void promise20() {
        StiltMarsh x = Check.marsh("marsh 3 by 2 skin 4 soft 9 deep 9; firm 2 1; walker a at 0 0 to 0 0 weight 4;");
        Check.refused(x, "20: column -1", x.plank(-1, 0), 1);
        Check.refused(x, "20: row 2", x.plank(0, 2), 1);
        Check.refused(x, "20: firm", x.plank(2, 1), 7);
        x.pierce(0, 0);
        Check.fine(x, "20: plank", x.plank(0, 0), 2);
        Check.refused(x, "20: firm", x.plank(0, 0), 7);
        Check.fine(x, "20: told", x.cell(0, 0, 5), 1);
        Check.fine(x, "20: its skin does not count", x.told(7), 16);
        Check.fine(x, "20: nor is it broken", x.told(8), 0);
        Check.fine(x, "20: nobody sinks", x.stand(99), 0);
        Check.fine(x, "20: nobody sinks", x.pole(0, 0, 2), 0);
        Check.fine(x, "20: its skin stays", x.cell(0, 0, 0), 0);
    }

    private static void promise21() {
        StiltMarsh x = Check.marsh("marsh 3 by 2 skin 4 soft 8 deep 9; firm 2 1; walker a at 0 0 to 0 0 weight 4;");
        Check.refused(x, "21: column 3", x.rot(3, 0), 1);
        Check.refused(x, "21: row -1", x.rot(0, -1), 1);
        Check.refused(x, "21: not firm", x.rot(0, 0), 7);
        x.pierce(0, 0);
        x.plank(0, 0);
        Check.fine(x, "21: rot", x.rot(0, 0));
        Check.fine(x, "21: whole", x.cell(0, 0, 0), 4);
        Check.fine(x, "21: not firm", x.cell(0, 0, 5), 0);
        Check.refused(x, "21: not firm any more", x.rot(0, 0), 7);
        x.stand(1);
        Check.fine(x, "21: it wears again", x.cell(0, 0, 0), 0);
        Check.fine(x, "21: rot", x.rot(2, 1));
        Check.fine(x, "21: none is firm", x.told(9), 0);
    }

    private static void promise22() {
        StiltMarsh x = Check.marsh("marsh 3 by 2 skin 0 soft 9 deep 9; walker a at 0 0 to 1 1 weight 20 long 5;"
            + "walker b at 2 0 to 0 0 weight 1;");
        Check.refused(x, "22: not fallen", x.rise(0, 1, 1), 7);
        x.stand(1);
        Check.fine(x, "22: fallen", x.told(5), 1);
        Check.refused(x, "22: walker 2", x.rise(2, 0, 0), 1);
        Check.refused(x, "22: walker -1", x.rise(-1, 0, 0), 1);
        Check.refused(x, "22: column 3", x.rise(0, 3, 0), 1);
        Check.refused(x, "22: row 2", x.rise(0, 0, 2), 1);
        Check.refused(x, "22: b is not fallen", x.rise(1, 0, 0), 7);
        Check.fine(x, "22: rise", x.rise(0, 1, 1));
        Check.fine(x, "22: up", x.told(5), 0);
        Check.fine(x, "22: home even", x.told(6), 1);
        duePole(x, "22: pole 0", 0, 0, 1, 1, 0);
        duePole(x, "22: pole 1", 0, 1, 1, 1, 0);
        Check.fine(x, "22: no moment", x.told(4), 1);
        Check.fine(x, "22: he can fall again", x.stand(1), 1);
    }

    private static void promise23() {
        StiltMarsh x = Check.marsh("marsh 3 by 2 skin 0 soft 9 deep 9; walker a at 0 0 to 1 1 weight 20 long 5 load 3;");
        Check.refused(x, "23: walker 1", x.pack(1, 3), 1);
        Check.refused(x, "23: -1", x.pack(0, -1), 1);
        Check.refused(x, "23: 21", x.pack(0, 21), 1);
        Check.fine(x, "23: it was", x.pack(0, 20), 3);
        Check.fine(x, "23: burden", x.burden(0), 40);
        Check.fine(x, "23: it was", x.pack(0, 0), 20);
        Check.fine(x, "23: burden", x.burden(0), 20);
        x.stand(1);
        Check.refused(x, "23: fallen", x.pack(0, 1), 7);
        Check.refused(x, "23: 1 first", x.pack(0, 21), 1);
    }

    private static void promise24() {
        StiltMarsh x = Check.marsh("marsh 3 by 2 skin 0 soft 9 deep 9; walker a at 0 0 to 1 1 weight 20 long 5;");
        Check.refused(x, "24: walker 1", x.send(1, 0, 0), 1);
        Check.refused(x, "24: column 3", x.send(0, 3, 0), 1);
        Check.refused(x, "24: row 2", x.send(0, 0, 2), 1);
        Check.fine(x, "24: send", x.send(0, 2, 0));
        Check.fine(x, "24: column", x.walker(0, 4), 2);
        Check.fine(x, "24: row", x.walker(0, 5), 0);
        Check.fine(x, "24: to where he stands", x.send(0, 0, 0));
        Check.fine(x, "24: home", x.told(6), 1);
        x.stand(1);
        Check.fine(x, "24: fallen, too", x.send(0, 2, 1));
        Check.fine(x, "24: way", x.way(0), 4);
    }

    private static void promise25() {
        StiltMarsh x = Check.marsh("marsh 3 by 1 skin 9 soft 9 deep 9; mends 2;");
        Check.refused(x, "25: -1", x.weather(-1), 1);
        Check.refused(x, "25: 10", x.weather(10), 1);
        x.pierce(0, 0);
        x.stand(1);
        Check.fine(x, "25: as told", x.cell(0, 0, 0), 2);
        Check.fine(x, "25: 0", x.weather(0));
        x.stand(5);
        Check.fine(x, "25: none", x.cell(0, 0, 0), 2);
        Check.fine(x, "25: 9", x.weather(9));
        Check.fine(x, "25: told", x.told(3), 9);
        x.stand(1);
        Check.fine(x, "25: whole", x.cell(0, 0, 0), 9);
    }

    private static void promise26() {
        StiltMarsh x = Check.marsh("marsh 3 by 2 skin 9 soft 9 deep 9; firm 1 1; walker a at 0 0 to 1 1 weight 5;");
        Check.refused(x, "26: column -1", x.pierce(-1, 0), 1);
        Check.refused(x, "26: row 2", x.pierce(0, 2), 1);
        Check.refused(x, "26: firm", x.pierce(1, 1), 7);
        x.stand(1);
        Check.fine(x, "26: how much it was", x.pierce(0, 0), 3);
        Check.fine(x, "26: broken", x.cell(0, 0, 0), 0);
        Check.fine(x, "26: again", x.pierce(0, 0), 0);
        Check.fine(x, "26: told", x.told(8), 1);
        Check.fine(x, "26: whole is as it was", x.cell(0, 0, 1), 9);
    }
}
