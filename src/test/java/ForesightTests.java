/** Promises 27 to 36: what would be. */
final class ForesightTests {
    private ForesightTests() {
    }

    public static void main(String[] args) {
        promise27();
        promises28And29();
        promise30();
        promise31();
        promise32();
        promise33();
        promise34();
        promise35();
        promise36();
        Check.close("ForesightTests");
    }

    private static void promise27() {
        StiltMarsh x = Check.marsh("marsh 6 by 5 skin 1 soft 1 deep 1;");
        Check.fine(x, "27: corners", x.far(0, 0, 5, 4), 9);
        Check.fine(x, "27: the other way", x.far(5, 4, 0, 0), 9);
        Check.fine(x, "27: corners", x.far(5, 0, 0, 4), 9);
        Check.fine(x, "27: the same", x.far(3, 2, 3, 2), 0);
        Check.fine(x, "27: a column", x.far(3, 2, 4, 2), 1);
        Check.refused(x, "27: column -1", x.far(-1, 0, 0, 0), 1);
        Check.refused(x, "27: column 6", x.far(6, 0, 0, 0), 1);
        Check.refused(x, "27: row 5", x.far(0, 5, 0, 0), 1);
        Check.refused(x, "27: to column 6", x.far(0, 0, 6, 0), 1);
        Check.refused(x, "27: to row -1", x.far(0, 0, 0, -1), 1);
        Check.refused(x, "27: far out", x.far(Integer.MAX_VALUE, 0, 0, Integer.MIN_VALUE), 1);
    }

    private static void promises28And29() {
        StiltMarsh x = Check.marsh("marsh 2 by 1 skin 0 soft 8 deep 30; walker a at 0 0 to 1 0 weight 3 long 30 load 7;"
            + "walker b at 0 0 to 1 0 weight 1 long 30;");
        Check.fine(x, "28: weight and load", x.burden(0), 10);
        Check.fine(x, "28: weight alone", x.burden(1), 1);
        Check.refused(x, "28: walker 2", x.burden(2), 1);
        Check.refused(x, "28: walker -1", x.burden(-1), 1);
        x.stand(5);
        Check.fine(x, "29: sunk by 25", x.pull(0, 0), 13);
        Check.fine(x, "29: sunk by 5", x.pull(1, 1), 3);
        Check.fine(x, "29: a step takes so many", x.step(1, 1, 0, 0), 3);
        Check.fine(x, "29: sunk by 0", x.pull(1, 1), 1);
        Check.fine(x, "29: a fell in that", x.told(5), 1);
        Check.fine(x, "29: fallen, too", x.pull(0, 0), 16);
        Check.refused(x, "29: walker 2", x.pull(2, 0), 1);
        Check.refused(x, "29: pole 2", x.pull(0, 2), 1);
        Check.refused(x, "29: pole -1", x.pull(0, -1), 1);
    }

    private static void promise30() {
        StiltMarsh x = Check.marsh("marsh 6 by 5 skin 0 soft 9 deep 9; firm 3 2; firm 0 0; firm 5 4;"
            + "walker a at 3 2 to 0 0 weight 1 reach 3; walker b at 0 0 to 0 0 weight 1; walker c at 5 4 to 0 0 weight 1 reach 2;"
            + "walker d at 5 0 to 0 0 weight 20 reach 2 long 1;");
        // Of the 25 cells no farther than 3, three lie outside: above, below and to the right.
        Check.fine(x, "30: the midst", x.choices(0, 0), 22);
        Check.fine(x, "30: a corner", x.choices(1, 0), 3);
        Check.fine(x, "30: a corner", x.choices(2, 1), 6);
        Check.fine(x, "30: not fallen yet", x.choices(3, 0), 6);
        x.step(1, 0, 1, 0);
        Check.fine(x, "30: from the other pole", x.choices(1, 0), 3);
        Check.fine(x, "30: from the other pole", x.choices(1, 1), 4);
        Check.fine(x, "30: d fell", x.told(5), 8);
        Check.fine(x, "30: fallen", x.choices(3, 0), 0);
        Check.refused(x, "30: walker 4", x.choices(4, 0), 1);
        Check.refused(x, "30: pole 2", x.choices(0, 2), 1);
    }

    private static void promise31() {
        StiltMarsh x = Check.marsh("marsh 6 by 2 skin 4 soft 8 deep 30; firm 0 0; cell 1 0 deep 9; cell 2 0 soft 0;"
            + "cell 3 0 skin 5; cell 4 0 skin 0; cell 5 0 skin 99; cell 0 1 skin 89; cell 1 1 skin 90;"
            + "walker a at 0 0 to 0 0 weight 3 load 1; walker b at 0 0 to 0 0 weight 1; walker c at 4 0 to 0 0 weight 20 long 1;"
            + "walker d at 0 0 to 0 0 weight 8 long 9;");
        Check.fine(x, "31: firm", x.bears(0, 0, 0), 99);
        Check.fine(x, "31: skin once, then 4, 8, 12", x.bears(0, 2, 1), 3);
        Check.fine(x, "31: not deep enough to fall", x.bears(0, 1, 0), 99);
        Check.fine(x, "31: just as deep as the poles are long", x.bears(3, 1, 0), 2);
        Check.fine(x, "31: not soft", x.bears(0, 2, 0), 99);
        Check.fine(x, "31: skin twice", x.bears(0, 3, 0), 4);
        Check.fine(x, "31: no skin", x.bears(0, 4, 0), 2);
        Check.fine(x, "31: 25 and 2", x.bears(0, 5, 0), 27);
        Check.fine(x, "31: he would fall in the 99th", x.bears(1, 0, 1), 98);
        Check.fine(x, "31: at the most", x.bears(1, 1, 1), 99);
        Check.fine(x, "31: he would fall at once", x.bears(2, 4, 0), 0);
        x.pierce(3, 0);
        Check.fine(x, "31: as it is now", x.bears(0, 3, 0), 2);
        x.pack(0, 0);
        Check.fine(x, "31: all his burden now", x.bears(0, 3, 0), 3);
        x.stand(1);
        Check.fine(x, "31: c fell", x.told(5), 4);
        Check.fine(x, "31: fallen, too", x.bears(2, 2, 1), 1);
        Check.fine(x, "31: whatever his poles do", x.bears(2, 4, 0), 0);
        Check.refused(x, "31: walker 4", x.bears(4, 0, 0), 1);
        Check.refused(x, "31: walker -1", x.bears(-1, 0, 0), 1);
        Check.refused(x, "31: column 6", x.bears(0, 6, 0), 1);
        Check.refused(x, "31: row -1", x.bears(0, 0, -1), 1);
    }

    private static void promise32() {
        StiltMarsh x = Check.marsh("marsh 4 by 3 skin 9 soft 8 deep 30; cell 2 1 skin 3; cell 1 2 skin 3; firm 0 0;"
            + "walker a at 0 0 to 0 0 weight 3; walker b at 0 0 to 0 0 weight 20;");
        Check.fine(x, "32: the first of two", x.weakest(0), 102);
        Check.fine(x, "32: b makes no difference but by firm", x.weakest(1), 1);
        x.plank(2, 1);
        Check.fine(x, "32: the second", x.weakest(0), 201);
        x.pierce(3, 0);
        Check.fine(x, "32: a hole", x.weakest(0), 3);
        x = Check.marsh("marsh 4 by 3 skin 9 soft 0 deep 30; walker a at 0 0 to 0 0 weight 3;");
        Check.fine(x, "32: all bear 99", x.weakest(0), 0);
        Check.refused(x, "32: walker 1", x.weakest(1), 1);
        x = Check.marsh("marsh 2 by 2 skin 90 soft 8 deep 30; cell 1 1 skin 89; walker a at 0 0 to 0 0 weight 1;");
        Check.fine(x, "32: 98 of all that bear 99", x.weakest(0), 101);
        Check.refused(x, "32: walker -1", x.weakest(-1), 1);
    }

    private static void promise33() {
        StiltMarsh x = Check.marsh("marsh 2 by 1 skin 5 soft 8 deep 20; walker a at 0 0 to 0 0 weight 4 long 12;"
            + "walker b at 0 0 to 0 0 weight 1 long 30 load 20;");
        x.pack(1, 0);
        // By moments: a bears 2 and 2, b 1 and 1: the skin of 5 is gone behind b's first pole.
        int[] aFirst = {0, 0, 2, 4, 6, 8, 10, 12, 12};
        int[] bSecond = {0, 1, 2, 3, 4, 5, 6, 7, 8};
        for (int n = 0; n < 9; n++) {
            Check.fine(x, "33: a in " + n, x.sunkIn(0, 0, n), aFirst[n]);
            Check.fine(x, "33: b in " + n, x.sunkIn(1, 1, n), bSecond[n]);
        }
        Check.fine(x, "33: no deeper", x.sunkIn(1, 1, 99), 20);
        Check.fine(x, "33: a's second pole bears nothing any more", x.sunkIn(0, 1, 99), 10);
        Check.fine(x, "33: nothing changed", x.told(4) + x.cell(0, 0, 0), 5);
        Check.refused(x, "33: -1", x.sunkIn(0, 0, -1), 1);
        Check.refused(x, "33: 100", x.sunkIn(0, 0, 100), 1);
        Check.refused(x, "33: walker 2", x.sunkIn(2, 0, 1), 1);
        Check.refused(x, "33: pole 2", x.sunkIn(0, 2, 1), 1);
    }

    private static void promise34() {
        StiltMarsh x = Check.marsh("marsh 3 by 1 skin 5 soft 8 deep 20; firm 0 0; cell 1 0 skin 89; cell 2 0 skin 0;"
            + "walker a at 0 0 to 1 0 weight 2; walker b at 2 0 to 0 0 weight 8 long 8; walker c at 2 0 to 2 0 weight 8 long 21;");
        Check.fine(x, "34: step", x.step(0, 1, 1, 0), 1);
        Check.fine(x, "34: in the 99th", x.fallsIn(0), 99);
        Check.fine(x, "34: in the next one", x.fallsIn(1), 1);
        Check.refused(x, "34: never", x.fallsIn(2), 6);
        Check.fine(x, "34: he does", x.stand(1), 2);
        Check.fine(x, "34: fallen", x.fallsIn(1), 0);
        Check.fine(x, "34: one less", x.fallsIn(0), 98);
        Check.fine(x, "34: nothing changed", x.told(4), 2);
        Check.refused(x, "34: walker 3", x.fallsIn(3), 1);
        Check.refused(x, "34: walker -1", x.fallsIn(-1), 1);
        x = Check.marsh("marsh 3 by 1 skin 5 soft 8 deep 20; firm 0 0; cell 1 0 skin 90; walker a at 0 0 to 1 0 weight 2;");
        x.step(0, 1, 1, 0);
        Check.refused(x, "34: in the 100th", x.fallsIn(0), 6);
    }

    private static void promise35() {
        StiltMarsh x = Check.marsh("marsh 3 by 1 skin 9 soft 8 deep 20; mends 2; firm 2 0; walker a at 0 0 to 1 0 weight 3 long 30;");
        x.pierce(1, 0);
        int[] below = {9, 5, 1, 0, 0};
        int[] beside = {0, 2, 4, 6, 8, 9, 9};
        for (int n = 0; n < 5; n++) {
            Check.fine(x, "35: below a pole in " + n, x.skinIn(0, 0, n), below[n]);
        }
        for (int n = 0; n < 7; n++) {
            Check.fine(x, "35: mending in " + n, x.skinIn(1, 0, n), beside[n]);
        }
        Check.fine(x, "35: firm", x.skinIn(2, 0, 99), 9);
        Check.fine(x, "35: in 99", x.skinIn(1, 0, 99), 9);
        Check.fine(x, "35: nothing changed", x.told(4) + x.cell(1, 0, 0), 0);
        Check.refused(x, "35: -1", x.skinIn(0, 0, -1), 1);
        Check.refused(x, "35: 100", x.skinIn(0, 0, 100), 1);
        Check.refused(x, "35: column 3", x.skinIn(3, 0, 1), 1);
        Check.refused(x, "35: row 1", x.skinIn(0, 1, 1), 1);
    }

    private static void promise36() {
        StiltMarsh x = Check.marsh("marsh 6 by 1 skin 9 soft 9 deep 9; cell 5 0 skin 0; walker a at 0 0 to 5 0 weight 1 reach 3;"
            + "walker b at 2 0 to 5 0 weight 1 reach 2; walker c at 3 0 to 5 0 weight 1; walker d at 5 0 to 5 0 weight 20 reach 3 long 1;");
        Check.fine(x, "36: b is near to a", x.helpers(0), 2);
        Check.fine(x, "36: a and c are near to b", x.helpers(1), 5);
        Check.fine(x, "36: b is near to c", x.helpers(2), 2);
        Check.fine(x, "36: d", x.helpers(3), 0);
        x.step(1, 0, 3, 0);
        Check.fine(x, "36: d is fallen", x.told(5), 8);
        Check.fine(x, "36: none for him", x.helpers(3), 0);
        Check.fine(x, "36: nor is he a help", x.helpers(1), 5);
        Check.refused(x, "36: walker 4", x.helpers(4), 1);
        Check.refused(x, "36: walker -1", x.helpers(-1), 1);
        x.rise(3, 5, 0);
        Check.fine(x, "36: up again, near to b's first pole", x.helpers(3), 2);
        Check.fine(x, "36: and b to him", x.helpers(1), 13);
    }
}
