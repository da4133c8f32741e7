/** Promises 55 to 59: mornings that are lived, their mean, and marks. */
final class MorningsTests {
    private static final String LAND = "marsh 3 by 3 skin 50 soft 8 deep 9; mends 1;";
    private static final String TWO = "walker a at 1 1 to 1 2 weight 2 load 5; walker b at 0 0 to 2 2 weight 4 load 18;";

    private MorningsTests() {
    }

    public static void main(String[] args) {
        promise55();
        promise55Draws();
        promise55Tests();
        promise55Limits();
        promise56();
        promise56Missed();
        promise57();
        promise57Restores();
        promises58And59();
        promises58And59Keep();
        Check.close("MorningsTests");
    }

    private static void dueLived(StiltMarsh x, String what, int... want) {
        for (int i = 0; i < 5; i++) {
            Check.fine(x, what + ": lived " + i, x.lived(i), want[i]);
        }
    }

    private static void promise55() {
        StiltMarsh x = Check.marsh(LAND + TWO);
        Check.refused(x, "55: no mornings", x.live(0), 6);
        Check.refused(x, "55: 1 comes first", x.live(-1), 1);
        Check.mornings(x, "step a 0 1 2; step a 1 1 2; stand 3; hand a b 2;", 4);
        Check.refused(x, "55: seed -1", x.live(-1), 1);
        Check.refused(x, "55: seed 10,000", x.live(10000), 1);
        Check.fine(x, "55: four steps", x.live(9999), 4);
        Check.fine(x, "55: they are done indeed", x.told(6), 1);
        Check.fine(x, "55: moments", x.told(4), 5);
        Check.fine(x, "55: steps of a", x.walker(0, 7), 2);
        Check.fine(x, "55: too far to hand", x.walker(1, 3), 18);
        dueLived(x, "55", 1, 5, 2, 0, 0);
        Check.fine(x, "55: all is as it is then", x.live(0), 4);
        Check.fine(x, "55: moments", x.told(4), 10);
        Check.mornings(x, "stand 1; stop; stand 9;", 3);
        Check.fine(x, "55: till the stop", x.live(0), 2);
        dueLived(x, "55: stop", 0, 1, 0, 0, 0);
        Check.mornings(x, "loop 3; stand 1; end; stand 2;", 3);
        Check.fine(x, "55: a loop counts once", x.live(0), 5);
        dueLived(x, "55: loop", 0, 5, 0, 0, 0);
        Check.mornings(x, "loop 2; loop 3; stand 1; end; stand 1; end;", 4);
        Check.fine(x, "55: each time it is come to from ahead", x.live(0), 11);
        dueLived(x, "55: loops", 0, 8, 0, 0, 0);
        Check.mornings(x, "loop 9; stand 1; stop; end;", 3);
        Check.fine(x, "55: a stop within a loop", x.live(0), 3);
        Check.mornings(x, "loop 99; loop 99; loop 99; end; end; end;", 3);
        Check.fine(x, "55: empty loops", x.live(0), 300);
        dueLived(x, "55: empty loops", 0, 0, 0, 0, 1);
    }

    private static void promise55Draws() {
        // Seed 0: s is 11257, then 54510: by 8, 1407 by 2 leaves 1, 6813 by 4 leaves 1: pole 1, a row more.
        StiltMarsh x = Check.marsh(LAND + TWO);
        Check.mornings(x, "any a;", 1);
        Check.fine(x, "55: any", x.live(0), 1);
        Check.fine(x, "55: pole 1", x.pole(0, 1, 0) * 10 + x.pole(0, 1, 1), 12);
        Check.fine(x, "55: pole 0 stays", x.pole(0, 0, 0) * 10 + x.pole(0, 0, 1), 11);
        dueLived(x, "55: any", 0, 1, 1, 0, 0);
        int[] seen = new int[8];
        x.mark();
        for (int seed = 0; seed < 200; seed++) {
            int s = (int) ((seed * 3037L + 11257) % 65536);
            int pole = s / 8 % 2;
            s = (int) ((s * 3037L + 11257) % 65536);
            int side = s / 8 % 4;
            int column = x.pole(0, 1 - pole, 0) + (side == 0 ? 1 : side == 2 ? -1 : 0);
            int row = x.pole(0, 1 - pole, 1) + (side == 1 ? 1 : side == 3 ? -1 : 0);
            boolean there = row < 3;
            x.live(seed);
            Check.fine(x, "55: missed outside", x.lived(0), there ? 0 : 1);
            if (there) {
                Check.due("55: seed " + seed, x.pole(0, pole, 0) * 10 + x.pole(0, pole, 1), column * 10 + row);
            }
            seen[pole * 4 + side]++;
            x.undo();
            x.mark();
            if (seed % 50 == 49) {
                // An object is good for 512 calls.
                x = Check.marsh(LAND + TWO);
                Check.mornings(x, "any a;", 1);
                x.step(0, 1, 1, 2);
                x.mark();
            }
        }
        for (int i = 0; i < 8; i++) {
            Check.due("55: all draws were seen", seen[i] > 0, true);
        }
        // Both draws come, even if he is fallen: b's step is the third and fourth draw of seed 0.
        x = Check.marsh(LAND + "cell 0 0 skin 0; walker a at 0 0 to 1 2 weight 20 long 1; walker b at 1 1 to 2 2 weight 4;");
        x.stand(1);
        Check.mornings(x, "any a; any b;", 2);
        x.live(0);
        dueLived(x, "55: draws of the fallen", 1, 1, 1, 0, 0);
        Check.fine(x, "55: 1773 by 2 leaves 1, 6521 by 4 leaves 1", x.pole(1, 1, 0) * 10 + x.pole(1, 1, 1), 12);
    }

    private static void promise55Tests() {
        StiltMarsh x = Check.marsh(LAND + "cell 0 0 skin 0; walker a at 0 0 to 1 2 weight 20 long 1; walker b at 1 1 to 1 1 weight 4;");
        String[] texts = {"when fallen a; stand 1; end; stand 1;", "when fallen b; stand 1; end; stand 1;",
            "when home a; stand 1; end; stand 1;", "when home b; stand 1; end; stand 1;",
            "when skin 2 2 < 51; stand 1; end; stand 1;", "when skin 2 2 < 50; stand 1; end; stand 1;",
            "when skin 2 2 = 50; stand 1; end; stand 1;", "when skin 2 2 = 49; stand 1; end; stand 1;",
            "when skin 2 2 > 49; stand 1; end; stand 1;", "when skin 2 2 > 50; stand 1; end; stand 1;",
            "when skin 2 0 > 50; when home b; stand 1; end; stand 1; end; stand 1;",
            "when home b; when home a; stand 1; end; end; stand 1;"};
        boolean[] holds = {true, false, false, true, true, false, true, false, true, false, false, false};
        x.stand(1);
        for (int i = 0; i < texts.length; i++) {
            x.mark();
            Check.feed(x, texts[i]);
            x.mornings(texts[i].length());
            int steps = i == 11 ? 3 : holds[i] ? 3 : 2;
            Check.fine(x, "55: " + texts[i], x.live(7), steps);
            Check.fine(x, "56: " + texts[i], x.lived(1), holds[i] ? 2 : 1);
            x.undo();
        }
    }

    private static void promise55Limits() {
        StiltMarsh x = Check.marsh(LAND + TWO);
        Check.mornings(x, "loop 99; loop 99; stand 1; end; end;", 3);
        Check.fine(x, "55: at most 300", x.live(0), 300);
        dueLived(x, "55: one loop, three within, the rest stands", 0, 296, 0, 0, 1);
        Check.mornings(x, "loop 99; stand 1; stand 1; stand 1; end; stand 1; stand 1;", 6);
        Check.fine(x, "55: just 300", x.live(0), 300);
        dueLived(x, "55: nothing is left", 0, 299, 0, 0, 0);
        Check.mornings(x, "loop 99; stand 1; stand 1; stand 1; end; stand 1; stand 1; stop;", 7);
        Check.fine(x, "55: 301", x.live(0), 300);
        dueLived(x, "55: the stop is left", 0, 299, 0, 0, 1);
        Check.mornings(x, "loop 1; loop 2; stand 1; stand 1; end; loop 98; stand 1; stand 1; stand 1; end; end;", 8);
        Check.fine(x, "55: 1, 1 and 4, 1 and 294", x.live(0), 300);
        Check.fine(x, "55: the last ones of 300 are whole loops", x.lived(4), 1);
        Check.mornings(x, "loop 1; stand 1; stand 1; loop 99; stand 1; stand 1; stand 1; end; end;", 7);
        Check.fine(x, "55: 1, 2, 1 and 296 of 297", x.live(0), 300);
        Check.fine(x, "55: one is left", x.lived(4), 1);
        Check.mornings(x, "loop 1; stand 1; loop 99; stand 1; stand 1; stand 1; end; end;", 6);
        Check.fine(x, "55: 1, 1, 1 and 297", x.live(0), 300);
        Check.fine(x, "55: ends are no steps", x.lived(4), 0);
    }

    private static void promise56() {
        StiltMarsh x = Check.marsh(LAND + "cell 1 1 skin 0; walker a at 1 1 to 1 2 weight 3 long 9;"
            + "walker b at 1 1 to 2 2 weight 16 long 3;");
        Check.refused(x, "56: there was none", x.lived(0), 6);
        Check.refused(x, "56: what -1", x.lived(-1), 1);
        Check.refused(x, "56: what 5", x.lived(5), 1);
        Check.refused(x, "56: no mornings", x.live(0), 6);
        Check.refused(x, "56: that was none", x.lived(0), 6);
        Check.mornings(x, "step a 0 1 2; step b 0 0 0; stand 2; step a 1 2 2;", 4);
        Check.fine(x, "56: four", x.live(0), 4);
        // The first step makes b fall; a's second one, sunk by 3, 5, 7, takes four moments.
        dueLived(x, "56", 1, 7, 2, 1, 0);
        x.undo();
        x.marsh(0);
        Check.refused(x, "56: no mornings", x.live(0), 6);
        Check.fine(x, "56: of that latest with status 0", x.lived(1), 7);
        // A step in which he falls is done, but comes to no end.
        x = Check.marsh(LAND + "cell 1 1 skin 0; walker a at 1 1 to 1 2 weight 3 long 3;");
        Check.mornings(x, "step a 0 1 2; step a 0 1 2;", 2);
        Check.fine(x, "56: two", x.live(0), 2);
        dueLived(x, "56: the first is done, the second missed", 1, 1, 0, 1, 0);
    }

    private static void promise56Missed() {
        StiltMarsh x = Check.marsh(LAND + TWO);
        Check.mornings(x, "hand a a 1; hand a b 1; hand b a 1; step a 0 0 0; step b 0 2 0; step b 0 0 1;", 6);
        Check.fine(x, "56: six", x.live(0), 6);
        dueLived(x, "56: to himself, far, far, far, far", 5, 1, 1, 0, 0);
        Check.mornings(x, "hand a b 2; hand b a 19; hand b a 16; hand b a 15; hand a b 20; hand a b 3;", 6);
        Check.fine(x, "56: six", x.live(0), 6);
        // b stands at 0 1 and 0 0 now, beside a. Loads 5 and 18: then 3 and 20, 19 would be too much,
        // 19 and 4, 15 is not there, 20 neither, 16 and 7.
        dueLived(x, "56: loads", 3, 0, 0, 0, 0);
        Check.fine(x, "56: a", x.walker(0, 3), 16);
    }

    private static void dueMean(StiltMarsh x, int seed, int many, long top, long bottom) {
        Check.fine(x, "57: mean", x.mean(seed, many));
        Check.due("57: top", x.top(), top);
        Check.due("57: bottom", x.bottom(), bottom);
    }

    private static void promise57() {
        StiltMarsh x = Check.marsh("marsh 3 by 1 skin 5 soft 0 deep 0; firm 1 0; walker a at 0 0 to 2 0 weight 4;");
        Check.refused(x, "57: no mornings", x.mean(0, 1), 6);
        Check.mornings(x, "stand 1;", 1);
        Check.refused(x, "57: seed -1", x.mean(-1, 1), 1);
        Check.refused(x, "57: many 0", x.mean(0, 0), 1);
        Check.refused(x, "57: many 21", x.mean(0, 21), 1);
        Check.refused(x, "57: the last above 9,999", x.mean(9999, 2), 1);
        Check.refused(x, "57: far above", x.mean(Integer.MAX_VALUE, 20), 1);
        dueMean(x, 9999, 1, 6, 1);
        dueMean(x, 9980, 20, 6, 1);
        Check.mornings(x, "stand 20;", 1);
        x.pierce(2, 0);
        dueMean(x, 0, 3, 0, 1);
    }

    private static void promise57Restores() {
        StiltMarsh x = Check.marsh("marsh 3 by 3 skin 40 soft 9 deep 9; mends 3; cell 1 0 skin 3; walker a at 1 1 to 0 0 weight 7;"
            + "walker b at 1 1 to 0 0 weight 9 long 4 load 4;");
        Check.mornings(x, "stand 1;", 1);
        x.live(5);
        Check.mornings(x, "loop 5; any a; any b; stand 1; end;", 4);
        long sum = 0;
        for (int seed = 100; seed < 112; seed++) {
            x.mark();
            x.live(seed);
            sum += x.told(7);
            x.undo();
        }
        x.mark();
        x.mark();
        x.live(77);
        Check.fine(x, "57: undo", x.undo(), 1);
        long divisor = 12;
        while (sum % divisor != 0 || 12 % divisor != 0) {
            divisor--;
        }
        long lived = x.lived(1);
        dueMean(x, 100, 12, sum / divisor, 12 / divisor);
        Check.fine(x, "57: lived stays", x.lived(1), lived);
        Check.fine(x, "57: the moment stays", x.told(4), 1);
        Check.fine(x, "57: so do steps", x.walker(0, 7) + x.walker(1, 7), 0);
        Check.fine(x, "57: and poles", x.cell(1, 1, 6), 4);
        Check.fine(x, "57: and skins", x.told(7), 323 - 8 - 14);
        Check.fine(x, "57: and marks", x.undo(), 0);
    }

    private static void promises58And59() {
        StiltMarsh x = Check.marsh(LAND + TWO);
        Check.refused(x, "59: none", x.undo(), 6);
        for (int i = 1; i <= 3; i++) {
            Check.fine(x, "58: mark", x.mark(), i);
            x.stand(i);
        }
        Check.refused(x, "58: a fourth", x.mark(), 4);
        Check.fine(x, "58: nothing came of it", x.told(4), 6);
        int[] moments = {0, 1, 3};
        for (int i = 2; i >= 0; i--) {
            Check.fine(x, "59: undo", x.undo(), i);
            Check.fine(x, "59: as it was", x.told(4), moments[i]);
        }
        Check.refused(x, "59: none", x.undo(), 6);
        Check.fine(x, "58: again", x.mark(), 1);
    }

    private static void promises58And59Keep() {
        StiltMarsh x = Check.marsh(LAND + "cell 2 2 odds 3; firm 2 0;" + TWO);
        Check.mornings(x, "stand 1; stand 2;", 2);
        x.tray(0, 0, 1);
        x.write(0, 0, 1);
        x.luck(2);
        x.mark();
        x.write(0, 0, 2);
        x.luck(1);
        x.weather(7);
        x.plank(0, 2);
        x.rot(2, 0);
        x.send(0, 2, 2);
        x.pack(1, 3);
        x.step(0, 0, 1, 0);
        x.pierce(1, 1);
        x.stand(20);
        Check.feed(x, "step zoe");
        x.mornings(8);
        Check.feed(x, "stop;");
        Check.fine(x, "59: other mornings", x.mornings(5), 1);
        x.live(0);
        Check.feed(x, "marsh 1 by 1 skin 1 soft 1 deep 1;              ");
        Check.fine(x, "59: another marsh", x.marsh(48), 0);
        Check.feed(x, "stop;");
        Check.fine(x, "59: undo", x.undo(), 0);
        int[] told = {3, 3, 2, 1, 0, 0, 0, 400, 0, 1, 23};
        for (int what = 0; what <= 10; what++) {
            Check.fine(x, "59: told " + what, x.told(what), told[what]);
        }
        Check.fine(x, "59: goal", x.walker(0, 4) * 10 + x.walker(0, 5), 12);
        Check.fine(x, "59: load", x.walker(1, 3), 18);
        Check.fine(x, "59: steps", x.walker(0, 7), 0);
        Check.fine(x, "59: poles", x.cell(1, 1, 6), 2);
        Check.fine(x, "59: odds", x.cell(2, 2, 4), 3);
        Check.fine(x, "59: firm", x.cell(2, 0, 5) * 10 + x.cell(0, 2, 5), 10);
        Check.fine(x, "59: lived is no part of it", x.lived(1), 0);
        Check.fine(x, "59: nor are trays", x.read(0, 0), 2);
        Check.due("59: nor is the fraction", x.top() * 100 + x.bottom(), 108);
        Check.due("59: nor is the fault", x.fault(0), 0);
        Check.fine(x, "59: nor is the tape", x.mornings(5), 1);
        x = Check.marsh(LAND + TWO);
        Check.mornings(x, "stand 1; stand 2;", 2);
        x.mark();
        Check.mornings(x, "stop;", 1);
        x.undo();
        Check.fine(x, "59: the mornings are back", x.live(0), 2);
        // Names come back, too.
        Check.feed(x, LAND);
        x.mark();
        Check.fine(x, "59: nobody", x.marsh(LAND.length()), 0);
        Check.badMornings(x, "any b;", 3, 4);
        x.undo();
        Check.mornings(x, "any b;", 1);
    }
}
