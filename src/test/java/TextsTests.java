/** Promises 9 to 16: the tape, the two texts and their faults, what is told of them. */
final class TextsTests {
    private static final String HEAD = "marsh 4 by 2 skin 6 soft 4 deep 9;";
    private static final String SMALL = "marsh 1 by 1 skin 0 soft 9 deep 9; walker q at 0 0 to 0 0 weight 20 long 1;";
    private static final String ANN = "walker ann at 0 0 to 3 0 weight 4;";

    private TextsTests() {
    }

    public static void main(String[] args) {
        promise9();
        promise10();
        promise10InPlace();
        promise10Numbers();
        promise10Faults();
        promise10WalkerFaults();
        promise10Tokens();
        promise11();
        promise11Faults();
        promise12();
        promise13();
        promise14();
        promise15();
        promise16();
        Check.close("TextsTests");
    }

    private static void promise9() {
        StiltMarsh x = new StiltMarsh();
        for (int i = 1; i <= 45; i++) {
            Check.due("9: feed " + i, x.feed(0x6d617273, 0x68203120, 0x62792031, 0x20736b69, 0x6e202020), 20 * i);
        }
        Check.due("9: 901 and more", x.feed(1, 2, 3, 4, 5), -1);
        Check.due("9: again", x.feed(1, 2, 3, 4, 5), -1);
        Check.refused(x, "9: nothing came of it", x.marsh(901), 1);
        Check.refused(x, "9: all 900 can be read", x.marsh(900), 9);
        // The second feed begins with 'marsh' where a number must stand: so the bytes come highest first, in order.
        Check.due("9: the order of the bytes", x.fault(0) * 1000 + x.fault(1), 2020);
        Check.due("9: the tape is empty then", x.feed(1, 2, 3, 4, 5), 20);
    }

    private static void promise10() {
        StiltMarsh x = new StiltMarsh();
        Check.refused(x, "10: below 0", x.marsh(-1), 1);
        Check.refused(x, "10: more than the tape has", x.marsh(1), 1);
        String text = HEAD + ANN;
        Check.feed(x, text);
        Check.refused(x, "10: below 0", x.marsh(-1), 1);
        Check.refused(x, "10: more than the tape has", x.marsh(81), 1);
        Check.due("10: fault is not told by status 1", x.fault(0), -1);
        Check.fine(x, "10: the tape stayed with status 1", x.marsh(text.length()), 1);
        Check.refused(x, "10: the tape is empty then", x.marsh(1), 1);
        Check.feed(x, "?");
        Check.refused(x, "10: a fault", x.marsh(1), 9);
        Check.refused(x, "10: the tape is empty with 9, too", x.marsh(1), 1);
        Check.fine(x, "10: the old one stays", x.told(0), 4);
        Check.fine(x, "10: a step", x.step(0, 0, 0, 0), 1);
        x.stand(2);
        x.mark();
        Check.mornings(x, "stop;", 1);
        Check.feed(x, SMALL);
        Check.fine(x, "10: another one", x.marsh(SMALL.length()), 1);
        Check.fine(x, "10: moment 0", x.told(4), 0);
        Check.fine(x, "10: no steps", x.walker(0, 7), 0);
        Check.refused(x, "10: no mornings", x.live(0), 6);
        Check.fine(x, "10: who falls", x.stand(1), 1);
        Check.feed(x, SMALL);
        Check.fine(x, "10: the same again", x.marsh(SMALL.length()), 1);
        Check.fine(x, "10: nobody is fallen", x.told(5), 0);
        Check.fine(x, "10: marks stay", x.undo(), 0);
        Check.fine(x, "10: and what they kept", x.told(4), 3);
        Check.fine(x, "10: an empty text", x.marsh(0), 0);
        Check.fine(x, "10: has no cells", x.told(0), 0);
        Check.feed(x, HEAD + "mends 2;" + ANN + "xxxx");
        Check.fine(x, "10: the first n bytes alone", x.marsh(HEAD.length() + ANN.length() + 8), 1);
    }

    private static void promise10InPlace() {
        // Nothing of the marsh ahead, nor of one with a fault, is left in the next one.
        StiltMarsh x = Check.marsh(HEAD + "mends 3; firm 1 1; cell 0 0 skin 1 soft 1 deep 1 odds 1;" + ANN);
        x.mornings(0);
        x.step(0, 0, 0, 0);
        x.mean(0, 1);
        Check.badMarsh(x, HEAD + "mends 3; firm 1 1; cell 0 0 skin 1 soft 1 deep 1 odds 1;" + ANN + "walker", 2, 130);
        Check.fine(x, "10: it stays", x.told(3) * 10 + x.told(9), 31);
        Check.feed(x, HEAD + "mends 0; " + ANN);
        Check.fine(x, "10: another one", x.marsh(HEAD.length() + ANN.length() + 9), 1);
        int[] want = {4, 2, 1, 0, 0, 0, 0, 48, 0, 0, 0};
        for (int what = 0; what <= 10; what++) {
            Check.fine(x, "10: told " + what, x.told(what), want[what]);
        }
        for (int what = 0; what <= 6; what++) {
            Check.fine(x, "10: cell " + what, x.cell(0, 0, what), new int[] {6, 6, 4, 9, 8, 0, 2}[what]);
        }
        Check.fine(x, "10: no steps", x.walker(0, 7), 0);
        x.stand(1);
        Check.feed(x, HEAD);
        Check.fine(x, "10: without mends", x.marsh(HEAD.length()), 0);
        Check.fine(x, "10: without mends", x.told(3), 0);
    }

    private static void promise10Numbers() {
        StiltMarsh x = Check.marsh("marsh 6 by 5 skin 99 soft 9 deep 30; mends 9; cell 5 4 skin 0 soft 0 deep 0 odds 16;"
            + "cell 0 4 odds 0; cell 1 4; walker a at 5 4 to 0 0 weight 20 reach 3 long 30 load 20;"
            + "walker abcdefgh at 0 0 to 5 4 weight 1 long 1; walker b at 0 0 to 0 0 weight 1 load 1;"
            + "walker c at 0 0 to 0 0 weight 1 reach 1;");
        Check.fine(x, "10: four walkers", x.told(2), 4);
        Check.fine(x, "10: whole", x.cell(5, 4, 1), 0);
        Check.fine(x, "10: odds", x.cell(5, 4, 4), 16);
        Check.fine(x, "10: odds", x.cell(0, 4, 4), 0);
        Check.fine(x, "10: what is not told stays", x.cell(0, 4, 1), 99);
        Check.fine(x, "10: odds without", x.cell(1, 4, 4), 8);
        Check.fine(x, "10: reach without", x.walker(1, 1), 1);
        Check.fine(x, "10: long without", x.walker(2, 2), 10);
        Check.fine(x, "10: load without", x.walker(3, 3), 0);
        Check.fine(x, "10: skins are whole", x.told(7), 29 * 99);
        String head = "marsh 4 by 2 skin 6 soft 4 deep 9;";
        String[][] bad = {{"marsh ", "0", "7"}, {"marsh 4 by ", "0", "6"}, {"marsh 4 by 2 skin ", "100"},
            {"marsh 4 by 2 skin 6 soft ", "10"}, {"marsh 4 by 2 skin 6 soft 4 deep ", "31"}, {head + "mends ", "10"},
            {head + "cell ", "4"}, {head + "cell 0 ", "2"}, {head + "cell 0 0 skin ", "100"},
            {head + "cell 0 0 soft ", "10"}, {head + "cell 0 0 deep ", "31"}, {head + "cell 0 0 odds ", "17"},
            {head + "firm ", "4"}, {head + "firm 0 ", "2"}, {head + "walker a at ", "4"}, {head + "walker a at 0 ", "2"},
            {head + "walker a at 0 0 to ", "4"}, {head + "walker a at 0 0 to 0 ", "2", "9999"},
            {head + "walker a at 0 0 to 0 0 weight ", "0", "21"}, {head + "walker a at 0 0 to 0 0 weight 1 reach ", "0", "4"},
            {head + "walker a at 0 0 to 0 0 weight 1 long ", "0", "31"},
            {head + "walker a at 0 0 to 0 0 weight 1 load ", "21"}};
        for (String[] one : bad) {
            for (int i = 1; i < one.length; i++) {
                Check.badMarsh(x, one[0] + one[i] + " ;", 4, one[0].length());
                Check.badMarsh(x, one[0] + one[i], 4, one[0].length());
            }
        }
    }

    private static void promise10Faults() {
        StiltMarsh x = new StiltMarsh();
        Check.badMarsh(x, "A", 1, 0);
        Check.badMarsh(x, "  \n,", 1, 3);
        Check.badMarsh(x, "\t" + HEAD, 1, 0);
        Check.badMarsh(x, HEAD + (char) 233, 1, 34);
        Check.badMarsh(x, HEAD + (char) 0, 1, 34);
        Check.badMarsh(x, "marsh 00004", 1, 6);
        Check.badMarsh(x, "marsh 12345678901234567890", 1, 6);
        Check.badMarsh(x, "12345", 1, 0);
        Check.badMarsh(x, "1234", 2, 0);
        Check.badMarsh(x, ";", 2, 0);
        Check.badMarsh(x, "mends 2;", 2, 0);
        Check.badMarsh(x, "cell 0 0;", 2, 0);
        Check.badMarsh(x, "firm 0 0;", 2, 0);
        Check.badMarsh(x, ANN, 2, 0);
        Check.badMarsh(x, "step", 2, 0);
        Check.badMarsh(x, "marshes", 2, 0);
        Check.badMarsh(x, "marsh", 2, 5);
        Check.badMarsh(x, "marsh  ", 2, 7);
        Check.badMarsh(x, "marsh ;", 2, 6);
        Check.badMarsh(x, "marsh 4 4", 2, 8);
        Check.badMarsh(x, "marsh 4 by by", 2, 11);
        Check.badMarsh(x, "marsh 4 by 2 soft", 2, 13);
        Check.badMarsh(x, "marsh 4 by 2 skin 6 deep", 2, 20);
        Check.badMarsh(x, "marsh 4 by 2 skin 6 soft 4;", 2, 26);
        Check.badMarsh(x, "marsh 4 by 2 skin 6 soft 4 deep 9", 2, 33);
        Check.badMarsh(x, "marsh 4 by 2 skin 6 soft 4 deep 9 9", 2, 34);
        Check.badMarsh(x, HEAD + ";", 2, 34);
        Check.badMarsh(x, HEAD + " 4", 2, 35);
        Check.badMarsh(x, HEAD + "stand 3;", 2, 34);
        Check.badMarsh(x, HEAD + HEAD, 5, 34);
        Check.badMarsh(x, HEAD + "mends 1; mends 1;", 5, 43);
        Check.badMarsh(x, HEAD + "mends;", 2, 39);
        Check.badMarsh(x, HEAD + "mends 1 1;", 2, 42);
        Check.badMarsh(x, HEAD + "cell 0;", 2, 40);
        Check.badMarsh(x, HEAD + "cell 0 0 soft 1 skin 1;", 2, 50);
        Check.badMarsh(x, HEAD + "cell 0 0 skin 1 skin 1;", 2, 50);
        Check.badMarsh(x, HEAD + "cell 0 0 odds 1 deep 1;", 2, 50);
        Check.badMarsh(x, HEAD + "cell 0 0 mends 1;", 2, 43);
        Check.badMarsh(x, HEAD + "cell 0 0 skin;", 2, 47);
        Check.badMarsh(x, HEAD + "firm 0 0", 2, 42);
        Check.badMarsh(x, HEAD + "firm 0 0 <", 2, 43);
    }

    private static void promise10WalkerFaults() {
        StiltMarsh x = new StiltMarsh();
        Check.badMarsh(x, HEAD + "walker 1", 2, 41);
        Check.badMarsh(x, HEAD + "walker abcdefghi at 0 0 to 0 0 weight 1;", 2, 41);
        for (String own : Model.OWN) {
            Check.badMarsh(x, HEAD + "walker " + own + " at 0 0 to 0 0 weight 1;", 2, 41);
        }
        Check.badMarsh(x, HEAD + "walker ? at", 1, 41);
        Check.badMarsh(x, HEAD + ANN + "walker ann at 0 0", 3, 34 + ANN.length() + 7);
        Check.badMarsh(x, HEAD + "walker a to 0 0", 2, 43);
        Check.badMarsh(x, HEAD + "walker a at 0 0 at", 2, 50);
        Check.badMarsh(x, HEAD + "walker a at 0 0 to 0 0 reach 1", 2, 57);
        Check.badMarsh(x, HEAD + "walker a at 0 0 to 0 0 weight 1 long 3 reach 1;", 2, 73);
        Check.badMarsh(x, HEAD + "walker a at 0 0 to 0 0 weight 1 load 3 long 1;", 2, 73);
        Check.badMarsh(x, HEAD + "walker a at 0 0 to 0 0 weight 1", 2, 65);
        StringBuilder five = new StringBuilder(HEAD);
        for (String name : new String[] {"a", "b", "c", "d"}) {
            five.append("walker ").append(name).append(" at 0 0 to 0 0 weight 1;");
        }
        Check.badMarsh(x, five + "walker", 6, five.length());
        Check.badMarsh(x, five + "walker a at 0 0 to 0 0 weight 1;", 6, five.length());
        Check.feed(x, five.toString());
        Check.fine(x, "10: four are fine", x.marsh(five.length()), 4);
    }

    private static void promise10Tokens() {
        String tight = "marsh4by2skin6soft4deep9;mends2;cell1 0skin3odds4;firm0 0;walker ann at0 0to3 0weight4reach2long6load1;";
        StiltMarsh x = Check.marsh(tight);
        Check.fine(x, "10: tight tokens", x.walker(0, 2), 6);
        Check.fine(x, "10: tight tokens", x.cell(1, 0, 4), 4);
        x = Check.marsh("\n marsh 0004\nby 2  skin\n\n06 soft 4 deep 9 ;\n");
        Check.fine(x, "10: leading noughts", x.told(0), 4);
        x = Check.marsh(HEAD + "cell 1 1 skin 3; cell 1 1 soft 2; cell 1 1 skin 5; firm 2 1; firm 2 1; cell 2 1 skin 7;");
        Check.fine(x, "10: the later cell", x.cell(1, 1, 1), 5);
        Check.fine(x, "10: the earlier cell stays", x.cell(1, 1, 2), 2);
        Check.fine(x, "10: skin is as whole", x.cell(1, 1, 0), 5);
        Check.fine(x, "10: firm stays", x.cell(2, 1, 5), 1);
        Check.fine(x, "10: firm has skin, too", x.cell(2, 1, 0), 7);
    }

    private static void promise11() {
        StiltMarsh x = Check.marsh(HEAD + ANN + "walker bo at 1 1 to 0 1 weight 7;");
        Check.refused(x, "11: below 0", x.mornings(-1), 1);
        Check.refused(x, "11: more than the tape has", x.mornings(1), 1);
        StringBuilder blanks = new StringBuilder("stop;");
        while (blanks.length() < 320) {
            blanks.append(' ');
        }
        Check.feed(x, blanks.toString());
        Check.refused(x, "11: above 300", x.mornings(301), 1);
        Check.fine(x, "11: 300", x.mornings(300), 1);
        Check.refused(x, "11: the tape is empty then", x.mornings(1), 1);
        Check.mornings(x, "step ann 0 1 0; stand 20; hand ann bo 20; any bo; when fallen ann; stop; end;"
            + "when home bo; end; when skin 3 1 < 99; end; when skin 0 0 > 0; end; when skin 0 0=5; end; loop 99; end;", 11);
        Check.mornings(x, "loop 1;loop 2;loop 3;stop;end;end;loop 3;end;end;", 5);
        Check.mornings(x, "", 0);
        Check.fine(x, "11: even that of no steps is there", x.live(0), 0);
        Check.mornings(x, "stand1;stand2;", 2);
        Check.fine(x, "11: in place of those ahead", x.live(0), 2);
        Check.feed(x, "stand 0;");
        Check.refused(x, "11: a fault", x.mornings(8), 9);
        Check.fine(x, "11: the old ones stay", x.live(0), 2);
        Check.refused(x, "11: the tape is empty with 9, too", x.mornings(1), 1);
        Check.mornings(x, "stop;".repeat(30), 30);
    }

    private static void promise11Faults() {
        StiltMarsh x = Check.marsh(HEAD + ANN + "walker bo at 1 1 to 0 1 weight 7;");
        Check.badMornings(x, "!", 1, 0);
        Check.badMornings(x, "stand 12345;", 1, 6);
        Check.badMornings(x, "end;", 2, 0);
        Check.badMornings(x, "loop 1;end;end;", 2, 11);
        Check.badMornings(x, "loop 1; stop;", 2, 13);
        Check.badMornings(x, "loop 1; end", 2, 11);
        Check.badMornings(x, "when home ann; loop 1; end; ", 2, 28);
        Check.badMornings(x, "marsh 1", 2, 0);
        Check.badMornings(x, "ann", 2, 0);
        Check.badMornings(x, "stop", 2, 4);
        Check.badMornings(x, "stand;", 2, 5);
        Check.badMornings(x, "step 0 ann", 2, 5);
        Check.badMornings(x, "step abcdefghi", 2, 5);
        Check.badMornings(x, "step home", 2, 5);
        Check.badMornings(x, "when stop", 2, 5);
        Check.badMornings(x, "when ann", 2, 5);
        Check.badMornings(x, "when; end;", 2, 4);
        Check.badMornings(x, "when ; ; end;", 2, 5);
        Check.badMornings(x, "when skin 0 0 ; 3", 2, 14);
        Check.badMornings(x, "when skin 0 0 3", 2, 14);
        Check.badMornings(x, "when skin 0 0 < = 3", 2, 16);
        Check.badMornings(x, "when skin 0 0 < 3 stop", 2, 18);
        Check.badMornings(x, "any zoe;", 3, 4);
        Check.badMornings(x, "step zoe 5", 3, 5);
        Check.badMornings(x, "hand ann zoe 5", 3, 9);
        Check.badMornings(x, "hand zoe zoe 5", 3, 5);
        Check.badMornings(x, "when fallen zoe;", 3, 12);
        Check.badMornings(x, "when home zoe;", 3, 10);
        Check.badMornings(x, "step ann 2 0 0;", 4, 9);
        Check.badMornings(x, "step ann 1 4 0;", 4, 11);
        Check.badMornings(x, "step ann 1 3 2;", 4, 13);
        Check.badMornings(x, "stand 0;", 4, 6);
        Check.badMornings(x, "stand 21;", 4, 6);
        Check.badMornings(x, "hand ann bo 0;", 4, 12);
        Check.badMornings(x, "hand ann bo 21;", 4, 12);
        Check.badMornings(x, "loop 0;", 4, 5);
        Check.badMornings(x, "loop 100;", 4, 5);
        Check.badMornings(x, "when skin 4 0 < 3;", 4, 10);
        Check.badMornings(x, "when skin 0 2 < 3;", 4, 12);
        Check.badMornings(x, "when skin 0 0 < 100;", 4, 16);
        Check.badMornings(x, "stop;".repeat(30) + "stop", 6, 150);
        Check.badMornings(x, "loop 1;loop 1;loop 1;loop 1;", 7, 21);
        Check.badMornings(x, "loop 1;when home bo;loop 1;end;loop 1;when home bo;", 7, 38);
        Check.badMornings(x, "stop;".repeat(27) + "loop 1;loop 1;loop 1;when", 6, 156);
        Check.mornings(x, "stop;".repeat(29) + "loop 9;end;", 30);
        StiltMarsh empty = new StiltMarsh();
        Check.badMornings(empty, "any ann;", 3, 4);
        Check.mornings(empty, "stand 3;", 1);
    }

    private static void promise12() {
        StiltMarsh x = new StiltMarsh();
        Check.due("12: ahead of any", x.fault(0), -1);
        Check.due("12: ahead of any", x.fault(1), -1);
        x.marsh(5);
        Check.due("12: with status 1", x.fault(0), -1);
        x.marsh(0);
        Check.due("12: without one", x.fault(0), 0);
        Check.due("12: without one", x.fault(1), -1);
        Check.due("12: for others", x.fault(2), -1);
        Check.due("12: for others", x.fault(-1), -1);
        Check.badMornings(x, "  stand x", 2, 8);
        x.marsh(5);
        Check.due("12: stays with status 1", x.fault(0), 2);
        Check.due("12: for others", x.fault(2), -1);
        Check.mornings(x, "stop;", 1);
        Check.due("12: without one", x.fault(0), 0);
        Check.due("12: without one", x.fault(1), -1);
    }

    private static void promise13() {
        StiltMarsh x = Check.marsh("marsh 3 by 2 skin 6 soft 8 deep 9; mends 3; firm 0 0; firm 2 1; cell 1 0 skin 0;"
            + "walker a at 0 0 to 0 0 weight 4 load 5; walker b at 1 0 to 1 0 weight 10 long 5 load 7;"
            + "walker c at 0 0 to 2 1 weight 4;");
        int[] first = {3, 2, 3, 3, 0, 0, 3, 18, 1, 2, 12};
        for (int what = 0; what <= 10; what++) {
            Check.fine(x, "13: told " + what, x.told(what), first[what]);
        }
        Check.fine(x, "13: b falls", x.stand(1), 2);
        int[] then = {3, 2, 3, 3, 1, 2, 1, 18, 1, 2, 12};
        for (int what = 0; what <= 10; what++) {
            Check.fine(x, "13: then told " + what, x.told(what), then[what]);
        }
        Check.refused(x, "13: what -1", x.told(-1), 1);
        Check.refused(x, "13: what 11", x.told(11), 1);
    }

    private static void promise14() {
        StiltMarsh x = Check.marsh("marsh 3 by 2 skin 6 soft 8 deep 9; firm 2 0; cell 2 1 skin 9 soft 1 deep 2 odds 3;"
            + "walker a at 2 1 to 0 0 weight 4; walker b at 2 1 to 1 0 weight 3;");
        x.step(1, 0, 2, 0);
        // A bears 2 by each pole, b all of 3 by pole 1.
        int[] want = {2, 9, 1, 2, 3, 0, 3};
        for (int what = 0; what <= 6; what++) {
            Check.fine(x, "14: cell " + what, x.cell(2, 1, what), want[what]);
        }
        Check.fine(x, "14: firm", x.cell(2, 0, 5), 1);
        Check.fine(x, "14: one pole", x.cell(2, 0, 6), 1);
        Check.fine(x, "14: usual odds", x.cell(2, 0, 4), 8);
        Check.refused(x, "14: what -1", x.cell(0, 0, -1), 1);
        Check.refused(x, "14: what 7", x.cell(0, 0, 7), 1);
        Check.refused(x, "14: column -1", x.cell(-1, 0, 0), 1);
        Check.refused(x, "14: column 3", x.cell(3, 0, 0), 1);
        Check.refused(x, "14: row -1", x.cell(0, -1, 0), 1);
        Check.refused(x, "14: row 2", x.cell(0, 2, 0), 1);
    }

    private static void promise15() {
        StiltMarsh x = Check.marsh("marsh 3 by 2 skin 6 soft 8 deep 9; walker a at 0 0 to 1 1 weight 4;"
            + "walker b at 1 0 to 2 1 weight 20 reach 3 long 7 load 8;");
        int[] a = {4, 1, 10, 0, 1, 1, 0, 0};
        int[] b = {20, 3, 7, 8, 2, 1, 0, 0};
        for (int what = 0; what <= 7; what++) {
            Check.fine(x, "15: a " + what, x.walker(0, what), a[what]);
            Check.fine(x, "15: b " + what, x.walker(1, what), b[what]);
        }
        Check.fine(x, "15: step", x.step(1, 0, 2, 0), 1);
        Check.fine(x, "15: one step", x.walker(1, 7), 1);
        Check.fine(x, "15: a step to where it stands", x.step(0, 0, 0, 0), 1);
        Check.fine(x, "15: counts", x.walker(0, 7), 1);
        Check.refused(x, "15: too far", x.step(0, 0, 2, 1), 7);
        Check.fine(x, "15: does not count", x.walker(0, 7), 1);
        Check.fine(x, "15: b fell in the step of a", x.told(5), 2);
        Check.fine(x, "15: is fallen", x.walker(1, 6), 1);
        Check.fine(x, "15: is not", x.walker(0, 6), 0);
        Check.refused(x, "15: what -1", x.walker(0, -1), 1);
        Check.refused(x, "15: what 8", x.walker(0, 8), 1);
        Check.refused(x, "15: walker -1", x.walker(-1, 0), 1);
        Check.refused(x, "15: walker 2", x.walker(2, 0), 1);
    }

    private static void promise16() {
        StiltMarsh x = Check.marsh("marsh 3 by 2 skin 0 soft 2 deep 9; walker a at 1 1 to 1 1 weight 8;");
        x.step(0, 1, 2, 1);
        x.stand(2);
        int[][] want = {{1, 1, 4}, {2, 1, 2}};
        for (int pole = 0; pole < 2; pole++) {
            for (int what = 0; what <= 2; what++) {
                Check.fine(x, "16: pole " + pole + " " + what, x.pole(0, pole, what), want[pole][what]);
            }
        }
        Check.refused(x, "16: what -1", x.pole(0, 0, -1), 1);
        Check.refused(x, "16: what 3", x.pole(0, 0, 3), 1);
        Check.refused(x, "16: pole -1", x.pole(0, -1, 0), 1);
        Check.refused(x, "16: pole 2", x.pole(0, 2, 0), 1);
        Check.refused(x, "16: walker -1", x.pole(-1, 0, 0), 1);
        Check.refused(x, "16: walker 1", x.pole(1, 0, 0), 1);
    }
}
