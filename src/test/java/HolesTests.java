/** Promises 49 to 54: what the holes tell, and odds. */
final class HolesTests {
    private HolesTests() {
    }

    public static void main(String[] args) {
        promise49();
        promises50And51();
        promises50And51Refusals();
        promise52();
        promise53();
        promise54();
        Check.close("HolesTests");
    }

    private static void promise49() {
        StiltMarsh x = Check.marsh("marsh 3 by 2 skin 9 soft 0 deep 0; cell 1 0 skin 20; walker a at 0 0 to 0 0 weight 5;");
        Check.fine(x, "49: none", x.gone(0), 0);
        x.stand(1);
        x.pierce(1, 0);
        Check.fine(x, "49: 6 and 20", x.gone(0), 26);
        Check.fine(x, "49: none", x.gone(1), 0);
        x.plank(1, 0);
        Check.fine(x, "49: firm ones do not count", x.gone(0), 6);
        x.rot(1, 0);
        Check.fine(x, "49: whole again", x.gone(0), 6);
        Check.refused(x, "49: row -1", x.gone(-1), 1);
        Check.refused(x, "49: row 2", x.gone(2), 1);
    }

    private static void fill(StiltMarsh x, int tray, int... numbers) {
        x.tray(tray, 2, numbers.length);
        for (int i = 0; i < numbers.length; i++) {
            x.write(tray, i, numbers[i]);
        }
    }

    private static void dueTracks(StiltMarsh x, int ways, int sure, int... numbers) {
        fill(x, 0, numbers);
        x.tray(1, 2, numbers.length);
        x.write(1, 0, 99);
        Check.fine(x, "50: others", x.tracks(1), 0);
        Check.fine(x, "50: tracks", x.tracks(0), ways);
        Check.fine(x, "50: others", x.tracks(1), 0);
        if (ways == 0) {
            Check.refused(x, "51: there is no way", x.sure(0), 6);
        } else {
            Check.fine(x, "51: sure", x.sure(0), sure);
        }
    }

    private static void promises50And51() {
        StiltMarsh x = Check.marsh("marsh 2 by 2 skin 0 soft 9 deep 9; walker a at 0 0 to 0 0 weight 3;"
            + "walker b at 0 0 to 0 0 weight 3; walker c at 0 0 to 0 0 weight 4 load 2; walker d at 0 0 to 0 0 weight 9 long 1;");
        dueTracks(x, 1, 0, 0, 0);
        dueTracks(x, 2, 0, 3, 0);
        dueTracks(x, 2, 3, 3, 3);
        dueTracks(x, 2, 0, 6, 0);
        dueTracks(x, 2, 7, 6, 6);
        // 9: d, or c with a or b.
        dueTracks(x, 3, 0, 0, 9);
        dueTracks(x, 4, 12, 9, 9);
        dueTracks(x, 1, 15, 21, 0);
        dueTracks(x, 0, 0, 1, 0);
        dueTracks(x, 0, 0, 0, -3);
        dueTracks(x, 0, 0, 3, 0 + 22);
        dueTracks(x, 2, 0, 3, 0, 77, -5);
        x.stand(1);
        x.pack(0, 0);
        Check.fine(x, "50: d fell", x.told(5) & 8, 8);
        dueTracks(x, 1, 15, 21, 0);
        x = Check.marsh("marsh 2 by 3 skin 0 soft 0 deep 9; walker a at 0 0 to 0 0 weight 1;");
        dueTracks(x, 1, 1, 0, 0, 1);
        x.pack(0, 4);
        dueTracks(x, 0, 0, 0, 0, 1);
        dueTracks(x, 1, 1, 0, 5, 0);
        x.tray(0, 3, 3);
        x.write(0, 0, 5 + (1L << 40));
        Check.fine(x, "50: the whole number counts", x.tracks(0), 0);
        x = Check.marsh("marsh 2 by 2 skin 0 soft 0 deep 9;");
        dueTracks(x, 1, 0, 0, 0);
        dueTracks(x, 0, 0, 0, 1);
    }

    private static void promises50And51Refusals() {
        StiltMarsh x = Check.marsh("marsh 2 by 2 skin 0 soft 9 deep 9; walker a at 0 0 to 0 0 weight 3;");
        Check.refused(x, "50: tray -1", x.tracks(-1), 1);
        Check.refused(x, "50: tray 4", x.tracks(4), 1);
        Check.refused(x, "50: missing", x.tracks(1), 2);
        Check.refused(x, "51: tray -1", x.sure(-1), 1);
        Check.refused(x, "51: tray 4", x.sure(4), 1);
        Check.refused(x, "51: missing", x.sure(1), 2);
        x.tray(1, 0, 1);
        Check.refused(x, "50: too few", x.tracks(1), 3);
        Check.refused(x, "51: too few", x.sure(1), 3);
        x = new StiltMarsh();
        x.tray(1, 0, 0);
        Check.fine(x, "50: no rows", x.tracks(1), 1);
        Check.fine(x, "51: no rows", x.sure(1), 0);
    }

    private static void dueLuck(StiltMarsh x, int row, long top, long bottom) {
        Check.fine(x, "52: luck", x.luck(row));
        Check.due("52: top", x.top(), top);
        Check.due("52: bottom", x.bottom(), bottom);
    }

    private static final String ODDS = "marsh 6 by 5 skin 1 soft 1 deep 1; cell 0 0 odds 1; cell 1 0 odds 3; cell 2 0 odds 5;"
        + "cell 3 0 odds 7; cell 4 0 odds 9; cell 5 0 odds 11; cell 3 1 odds 16; cell 0 2 odds 0; firm 0 3; firm 2 3;"
        + "cell 0 4 odds 16; cell 1 4 odds 16; cell 2 4 odds 16; cell 3 4 odds 16; cell 4 4 odds 16; cell 5 4 odds 15;";

    private static void promise52() {
        StiltMarsh x = Check.marsh(ODDS);
        dueLuck(x, 0, 10395, 1L << 24);
        dueLuck(x, 1, 1, 32);
        dueLuck(x, 2, 0, 1);
        dueLuck(x, 3, 1, 16);
        dueLuck(x, 4, 15, 16);
        x.plank(5, 4);
        dueLuck(x, 4, 1, 1);
        x.plank(0, 2);
        dueLuck(x, 2, 1, 32);
        Check.refused(x, "52: row -1", x.luck(-1), 1);
        Check.refused(x, "52: row 5", x.luck(5), 1);
        Check.due("52: the fraction stays", x.top() * 100 + x.bottom(), 132);
    }

    private static void promise53() {
        StiltMarsh x = new StiltMarsh();
        Check.refused(x, "53: no rows", x.luckiest(), 6);
        x = Check.marsh(ODDS);
        Check.fine(x, "53: the best", x.luckiest(), 4);
        x = Check.marsh("marsh 2 by 3 skin 1 soft 1 deep 1;");
        Check.fine(x, "53: of several the first", x.luckiest(), 0);
        x.plank(0, 2);
        Check.fine(x, "53: the best", x.luckiest(), 2);
        x.plank(1, 1);
        Check.fine(x, "53: of several the first", x.luckiest(), 1);
        x.luck(0);
        x.luckiest();
        Check.due("53: the fraction stays", x.top() * 100 + x.bottom(), 104);
    }

    private static void promise54() {
        StiltMarsh x = Check.marsh("marsh 3 by 2 skin 7 soft 1 deep 1; cell 1 1 skin 99; firm 2 1; walker a at 0 1 to 0 0 weight 2;");
        x.stand(1);
        Check.refused(x, "54: row -1", x.copyRow(-1, 0), 1);
        Check.refused(x, "54: row 2", x.copyRow(2, 0), 1);
        Check.refused(x, "54: tray -1", x.copyRow(0, -1), 1);
        Check.refused(x, "54: tray 4", x.copyRow(0, 4), 1);
        Check.refused(x, "54: missing", x.copyRow(0, 0), 2);
        x.tray(0, 0, 2);
        Check.refused(x, "54: too few", x.copyRow(0, 0), 3);
        x.tray(0, 0, 4);
        x.write(0, 3, -9);
        Check.fine(x, "54: copied", x.copyRow(1, 0), 3);
        int[] want = {5, 99, 7, -9};
        for (int i = 0; i < 4; i++) {
            Check.fine(x, "54: place " + i, x.read(0, i), want[i]);
        }
    }
}
