/** Terms, ==== 1.: TRAYS and how a MARSH is read. One method for each sentence that names a boundary. */
final class EdgeTerms1Tests {
    private static final String HEAD = "marsh 4 by 3 skin 6 soft 4 deep 9;";
    private static final int H = HEAD.length();
    private static final String TAIL = " at 0 0 to 3 2 weight 5;";

    private EdgeTerms1Tests() {
    }

    public static void main(String[] args) {
        traysMissing();
        traysLong();
        traysBits();
        marshBytes();
        tokensBytes();
        tokensAsLongAsTheyGo();
        tokensDigits();
        tokensCut();
        partsAnyNumber();
        partsPerhaps();
        names();
        namesOfOne();
        sizes();
        sizesOfCells();
        cellNumbers();
        walkerNumbers();
        without();
        belowNought();
        firmAgain();
        numberedAsTheyStand();
        faultFirstAlong();
        faultLeastKind();
        faultNoToken();
        faultTheEnd();
        faultCanNotStand();
        faultAheadOfMarsh();
        faultToldAlready();
        faultFifthWalker();
        takenInPlace();
        takenOfNoCells();
        takenBehindMean();
        Check.close("EdgeTerms1Tests");
    }

    // ---- TRAYS

    private static void traysMissing() {
        Edge e = new Edge("Terms 1, TRAYS 0 to 3 are MISSING at first").onNew();
        e.no(1, "read", -1, 0).no(1, "read", 4, 0);
        for (int tray = 0; tray <= 3; tray++) {
            e.no(2, "read", tray, 0);
            e.yes(1, "tray", tray, 0, 1).then(0, "read", tray, 0);
            for (int other = 0; other <= 3; other++) {
                if (other != tray) {
                    e.thenNo(2, "read", other, 0);
                }
            }
        }
    }

    private static void traysLong() {
        Edge e = new Edge("Terms 1, TRAYS: rows of 0 to 60 numbers").onNew();
        for (int sort = 0; sort <= 3; sort++) {
            e.no(1, "tray", 1, sort, -1).no(1, "tray", 1, sort, 61);
            e.yes(1, "tray", 1, sort, 0).thenNo(3, "read", 1, 0).thenNo(3, "write", 1, 0, 7);
            e.yes(1, "tray", 1, sort, 1).then(0, "read", 1, 0).thenNo(3, "read", 1, 1);
            e.yes(1, "tray", 1, sort, 59).then(0, "read", 1, 58).thenNo(3, "read", 1, 59);
            e.yes(1, "tray", 1, sort, 60).then(0, "read", 1, 59).thenNo(3, "read", 1, 60);
        }
    }

    private static void traysBits() {
        Edge e = new Edge("Terms 1, TRAYS: numbers of 8 bits (sort 0), 16 (1), 32 (2) or 64 (3)").onNew();
        e.no(1, "tray", 0, -1, 3).no(1, "tray", 0, 4, 3);
        for (int sort = 0; sort <= 3; sort++) {
            int bits = 8 << sort;
            long most = (1L << bits - 1) - 1;
            long least = -most - 1;
            e.onNew().after("tray", 0, sort, 3);
            e.yes(1, "write", 0, 1, most - 1).then(most - 1, "read", 0, 1);
            e.yes(1, "write", 0, 1, most).then(most, "read", 0, 1);
            e.yes(1, "write", 0, 1, most + 1).then(least, "read", 0, 1);
            e.yes(1, "write", 0, 1, least + 1).then(least + 1, "read", 0, 1);
            e.yes(1, "write", 0, 1, least).then(least, "read", 0, 1);
            e.yes(1, "write", 0, 1, least - 1).then(most, "read", 0, 1);
            e.yes(1, "write", 0, 1, -1).then(-1, "read", 0, 1).then(0, "read", 0, 0).then(0, "read", 0, 2);
            if (sort < 3) {
                e.yes(1, "write", 0, 1, (1L << bits) - 1).then(-1, "read", 0, 1);
                e.yes(1, "write", 0, 1, 1L << bits).then(0, "read", 0, 1);
                e.yes(1, "write", 0, 1, (1L << bits) + 1).then(1, "read", 0, 1);
                e.yes(1, "write", 0, 1, Long.MIN_VALUE).then(0, "read", 0, 1);
                e.yes(1, "write", 0, 1, Long.MAX_VALUE).then(-1, "read", 0, 1);
            }
        }
    }

    // ---- TEXT and TOKENS

    private static String longText(int bytes) {
        String last = "walker ann at 0 0 to 3 2 weight 5;";
        return HEAD + " ".repeat(bytes - H - last.length()) + last;
    }

    private static void marshBytes() {
        Edge e = new Edge("Terms 1, A MARSH is a TEXT of at most 900 bytes").onNew();
        e.takes(1, longText(899)).takes(1, longText(900));
        e.onNew().fed(longText(900));
        e.yes(1, "marsh", 900).then(5, "walker", 0, 0);
        e.no(1, "marsh", 901);
        e.yes(0, "marsh", H);
        e.yes(0, "marsh", 0).then(0, "told", 0);
        Edge cut = new Edge("Terms 1, A MARSH is a TEXT of at most 900 bytes: its last one matters").onNew();
        cut.fed(longText(900));
        cut.thenNo(9, "marsh", 899).tells(2, "fault", 0).tells(899, "fault", 1);
    }

    private static void tokensBytes() {
        Edge e = new Edge("Terms 1, between them blanks (10, 32): WORDS (small letters), NUMBERS, SIGNS ; < > =").onNew();
        for (int sign = 0; sign < 256; sign++) {
            String text = HEAD + (char) sign;
            boolean begins = sign >= 'a' && sign <= 'z' || sign >= '0' && sign <= '9' || ";<>=".indexOf(sign) >= 0;
            if (sign == 10 || sign == 32) {
                e.takes(0, text);
                e.takes(0, (char) sign + HEAD);
                e.takes(0, HEAD.replace(' ', (char) sign));
            } else {
                e.faulty(begins ? 2 : 1, H, text);
            }
        }
    }

    private static void tokensAsLongAsTheyGo() {
        Edge e = new Edge("Terms 1, TOKENS, as long as they go").onNew();
        e.takes(0, "marsh4by3skin6soft4deep9;mends2;");
        e.takes(0, "marsh 4by 3skin 6 soft4deep9 ;");
        e.faulty(2, 0, "mar sh 4 by 3 skin 6 soft 4 deep 9;");
        e.faulty(2, 0, "marshb 4 by 3 skin 6 soft 4 deep 9;");
        e.faulty(2, 0, "marshxby");
        e.faulty(4, H + 5, HEAD + "cell 12 0;");
        e.takes(0, HEAD + "cell 1 2;").takes(0, HEAD + "cell 1\n2;");
        e.faulty(2, H + 6, HEAD + "mends ;");
        e.faulty(4, H + 6, HEAD + "mends 10;").takes(0, HEAD + "mends 1;");
        e.faulty(2, H + 8, HEAD + "mends 1 0;");
        e.on(HEAD + "walker ab" + TAIL);
        e.takesMornings(1, "any ab;");
        e.faultyMornings(2, 0, "anyab;");
        e.takesMornings(1, "step ab1 3 2;").takesMornings(1, "when skin0 0<3;end;");
        e.faultyMornings(2, 15, "when skin 0 0 <> 3;");
    }

    private static void tokensDigits() {
        Edge e = new Edge("Terms 1, NUMBERS (1 to 4 digits); a NUMBER of 5 digits and more: at its first").onNew();
        e.takes(0, HEAD + "mends 3;").then(3, "told", 3);
        e.takes(0, HEAD + "mends 003;").then(3, "told", 3);
        e.takes(0, HEAD + "mends 0003;").then(3, "told", 3);
        e.faulty(1, H + 6, HEAD + "mends 00003;").faulty(1, H + 6, HEAD + "mends 000003;");
        e.faulty(4, H + 6, HEAD + "mends 9999;").faulty(1, H + 6, HEAD + "mends 10000;");
        e.faulty(1, H + 6, HEAD + "mends " + "9".repeat(700) + ";");
        e.faulty(1, H + 7, HEAD + "mends  00003").faulty(1, H + 6, HEAD + "mends 4294967299;");
        e.faulty(2, 0, "1234").faulty(1, 0, "12345");
    }

    private static void tokensCut() {
        Edge e = new Edge("Terms 1 and Promise 10, TOKENS as long as they go: no further than the first n bytes");
        String text = HEAD + "mends 3;cell 1 2;walker abc";
        e.onNew().fed(text + " ".repeat(20));
        // Behind the cut there are more digits, more letters: they are no part of the TOKEN.
        e.thenNo(9, "marsh", H + 3).tells(2, "fault", 0).tells(H, "fault", 1);
        e.onNew().fed(HEAD + "mends 12345").thenNo(9, "marsh", H + 7).tells(2, "fault", 0).tells(H + 7, "fault", 1);
        e.onNew().fed(HEAD + "mends 12345").thenNo(9, "marsh", H + 8).tells(4, "fault", 0).tells(H + 6, "fault", 1);
        e.onNew().fed(HEAD + "mends 12345").thenNo(9, "marsh", H + 10).tells(4, "fault", 0).tells(H + 6, "fault", 1);
        e.onNew().fed(HEAD + "mends 12345").thenNo(9, "marsh", H + 11).tells(1, "fault", 0).tells(H + 6, "fault", 1);
        e.onNew().fed(HEAD + "walker abcdefghi").thenNo(9, "marsh", H + 15).tells(2, "fault", 0).tells(H + 15, "fault", 1);
        e.onNew().fed(HEAD + "walker abcdefghi").thenNo(9, "marsh", H + 16).tells(2, "fault", 0).tells(H + 7, "fault", 1);
        e.onNew().fed(HEAD + "marshes").thenNo(9, "marsh", H + 5).tells(5, "fault", 0).tells(H, "fault", 1);
        e.onNew().fed(HEAD + "marshes").thenNo(9, "marsh", H + 6).tells(2, "fault", 0).tells(H, "fault", 1);
        e.on(HEAD + "walker ab" + TAIL).fed("any abc").thenNo(9, "mornings", 6).tells(2, "fault", 0).tells(6, "fault", 1);
        e.on(HEAD + "walker ab" + TAIL).fed("any abc").thenNo(9, "mornings", 7).tells(3, "fault", 0).tells(4, "fault", 1);
    }

    // ---- PARTS

    private static void partsAnyNumber() {
        Edge e = new Edge("Terms 1, MARSH: {PART} any number of times").onNew();
        e.takes(0, "").then(0, "told", 0).then(0, "told", 1).then(0, "told", 7);
        e.takes(0, " ").takes(0, "\n \n").takes(0, HEAD).takes(0, HEAD + "firm 0 0;");
        String many = HEAD + "firm 3 2;".repeat(96);
        e.takes(0, many).then(1, "told", 9);
        e.faulty(2, many.length(), many + ";");
    }

    private static void partsPerhaps() {
        Edge e = new Edge("Terms 1, [ ] perhaps").onNew();
        String[] cell = {" skin 1", " soft 2", " deep 3", " odds 4"};
        long[] usual = {6, 4, 9, 8};
        String[] walker = {" reach 3", " long 7", " load 6"};
        long[] without = {1, 10, 0};
        long[] with = {3, 7, 6};
        for (int set = 0; set < 16; set++) {
            StringBuilder b = new StringBuilder(HEAD + "cell 2 1");
            for (int i = 0; i < 4; i++) {
                b.append((set >> i & 1) != 0 ? cell[i] : "");
            }
            e.takes(0, b + ";");
            for (int i = 0; i < 4; i++) {
                e.then((set >> i & 1) != 0 ? i + 1 : usual[i], "cell", 2, 1, i + 1);
            }
        }
        for (int set = 0; set < 8; set++) {
            StringBuilder b = new StringBuilder(HEAD + "walker w at 0 0 to 1 1 weight 5");
            for (int i = 0; i < 3; i++) {
                b.append((set >> i & 1) != 0 ? walker[i] : "");
            }
            e.takes(1, b + ";");
            for (int i = 0; i < 3; i++) {
                e.then((set >> i & 1) != 0 ? with[i] : without[i], "walker", 0, i + 1);
            }
        }
        // Each at most once, and in the order of the document.
        for (int i = 0; i < 4; i++) {
            for (int k = 0; k <= i; k++) {
                e.faulty(2, H + 8 + cell[i].length() + 1, HEAD + "cell 2 1" + cell[i] + cell[k] + ";");
            }
        }
        String start = HEAD + "walker w at 0 0 to 1 1 weight 5";
        for (int i = 0; i < 3; i++) {
            for (int k = 0; k <= i; k++) {
                e.faulty(2, start.length() + walker[i].length() + 1, start + walker[i] + walker[k] + ";");
            }
        }
    }

    // ---- NAMES

    private static void names() {
        Edge e = new Edge("Terms 1, NAME: a WORD of 1 to 8 letters that is none of marsh, by, ..").onNew();
        for (String name : new String[] {"a", "z", "ab", "abcdefg", "abcdefgh", "zzzzzzzz", "aaaaaaaa"}) {
            e.takes(1, HEAD + "walker " + name + TAIL);
            e.thenFed("any " + name + ";").then(1, "mornings", name.length() + 5);
        }
        for (String name : new String[] {"abcdefghi", "zzzzzzzzz", "aaaaaaaaa", "abcdefghijklmnopqrstuvwxyz"}) {
            e.faulty(2, H + 7, HEAD + "walker " + name + TAIL);
        }
        e.faulty(2, H + 7, HEAD + "walker at 0 0").faulty(2, H + 7, HEAD + "walker 7" + TAIL).faulty(2, H + 7, HEAD + "walker ;");
        String own = "marsh by skin soft deep mends cell odds firm walker at to weight reach long load step stand hand any when"
            + " fallen home loop end stop";
        Check.due("Terms 1, NAME: 26 words are none", own.split(" ").length, 26);
        for (String word : own.split(" ")) {
            e.faulty(2, H + 7, HEAD + "walker " + word + TAIL);
            e.takes(1, HEAD + "walker " + word + "s" + TAIL).takes(1, HEAD + "walker x" + word + TAIL);
            if (!own.contains(word.substring(1) + " ")) {
                e.takes(1, HEAD + "walker " + word.substring(1) + TAIL);
            }
        }
    }

    private static void namesOfOne() {
        Edge e = new Edge("Terms 1, One NAME is of one WALKER alone").onNew();
        String first = HEAD + "walker ann" + TAIL;
        e.faulty(3, first.length() + 7, first + "walker ann" + TAIL).faulty(3, first.length() + 7, first + "walker ann");
        e.takes(2, first + "walker anna" + TAIL).takes(2, first + "walker an" + TAIL).takes(2, first + "walker nna" + TAIL);
        String two = HEAD + "walker abcdefgh" + TAIL + "walker abcdefgi" + TAIL;
        e.takes(2, two);
        e.faulty(3, two.length() + 7, two + "walker abcdefgh" + TAIL).faulty(3, two.length() + 7, two + "walker abcdefgi" + TAIL);
        String three = two + "walker c" + TAIL;
        e.faulty(3, three.length() + 7, three + "walker c" + TAIL).takes(4, three + "walker d" + TAIL);
        // Those of the marsh ahead are free again, those of one with a fault, too.
        e.on(first);
        e.takes(1, first);
        e.onNew().fed(first + "?");
        e.thenNo(9, "marsh", first.length() + 1).thenFed(first).then(1, "marsh", first.length());
    }

    // ---- NUMBERS

    private static void sizes() {
        Edge e = new Edge("Terms 1, MARSH: WIDE (1 to 6) by DEEP (1 to 5); SKIN (0 to 99), SOFT (0 to 9), DEEP (0 to 30)").onNew();
        String rest = " skin 6 soft 4 deep 9;";
        e.faulty(4, 6, "marsh 0 by 3" + rest).faulty(4, 6, "marsh 7 by 3" + rest).faulty(4, 6, "marsh 9999 by 3" + rest);
        e.faulty(4, 11, "marsh 4 by 0" + rest).faulty(4, 11, "marsh 4 by 6" + rest).faulty(4, 11, "marsh 4 by 9999" + rest);
        for (int wide = 1; wide <= 6; wide++) {
            for (int deep = 1; deep <= 5; deep++) {
                e.takes(0, "marsh " + wide + " by " + deep + rest).then(wide, "told", 0).then(deep, "told", 1);
                e.then(6L * wide * deep, "told", 7).then(6, "cell", wide - 1, deep - 1, 0);
                e.thenNo(1, "cell", wide, deep - 1, 0).thenNo(1, "cell", wide - 1, deep, 0);
            }
        }
        String[] words = {"skin", "soft", "deep"};
        int[] most = {99, 9, 30};
        for (int i = 0; i < 3; i++) {
            String ahead = "marsh 4 by 3" + rest.substring(0, rest.indexOf(words[i]) + 5);
            String behind = rest.substring(rest.indexOf(words[i]) + 6);
            for (int v : new int[] {0, 1, most[i] - 1, most[i]}) {
                e.takes(0, ahead + v + behind).then(v, "cell", 0, 0, i + 1).then(v, "cell", 3, 2, i + 1);
                e.then(i == 0 ? v : 6, "cell", 3, 2, 0);
            }
            e.faulty(4, ahead.length(), ahead + (most[i] + 1) + behind).faulty(4, ahead.length(), ahead + "9999" + behind);
        }
    }

    private static void sizesOfCells() {
        Edge e = new Edge("Terms 1, CELLS (column 0 to WIDE less 1, row 0 to DEEP less 1)").onNew();
        int[][] sizes = {{1, 1}, {6, 5}, {6, 1}, {1, 5}, {4, 3}};
        String[] starts = {"firm ", "cell ", "walker a at ", "walker a at 0 0 to "};
        String[] ends = {";", " odds 3;", " to 0 0 weight 1;", " weight 1;"};
        for (int[] size : sizes) {
            String head = "marsh " + size[0] + " by " + size[1] + " skin 6 soft 4 deep 9;";
            int c = size[0] - 1;
            int r = size[1] - 1;
            for (int i = 0; i < 4; i++) {
                int walkers = i < 2 ? 0 : 1;
                int place = head.length() + starts[i].length();
                e.takes(walkers, head + starts[i] + "0 0" + ends[i]);
                e.takes(walkers, head + starts[i] + c + " " + r + ends[i]);
                e.faulty(4, place, head + starts[i] + (c + 1) + " " + r + ends[i]);
                e.faulty(4, place + 2, head + starts[i] + c + " " + (r + 1) + ends[i]);
                e.faulty(4, place, head + starts[i] + (c + 1) + " " + (r + 1) + ends[i]);
                e.faulty(4, place, head + starts[i] + "9999 9999" + ends[i]);
            }
            e.takes(0, head + "firm " + c + " " + r + ";").then(1, "cell", c, r, 5).then(1, "told", 9);
            e.takes(0, head + "cell " + c + " " + r + " odds 3;").then(3, "cell", c, r, 4);
            e.takes(1, head + "walker a at " + c + " " + r + " to 0 0 weight 1;").then(c, "pole", 0, 0, 0).then(r, "pole", 0, 1, 1);
            e.takes(1, head + "walker a at 0 0 to " + c + " " + r + " weight 1;").then(c, "walker", 0, 4).then(r, "walker", 0, 5);
        }
    }

    private static void cellNumbers() {
        Edge e = new Edge("Terms 1, MENDS (0 to 9); CELL: another whole SKIN, SOFT, DEEP, ODDS (0 to 16) there").onNew();
        String[] words = {"skin", "soft", "deep", "odds"};
        int[] most = {99, 9, 30, 16};
        long[] usual = {6, 4, 9, 8};
        for (int i = 0; i < 4; i++) {
            String ahead = HEAD + "cell 3 2 " + words[i] + " ";
            for (int v : new int[] {0, 1, most[i] - 1, most[i]}) {
                e.takes(0, ahead + v + ";").then(v, "cell", 3, 2, i + 1);
                e.then(usual[i], "cell", 2, 2, i + 1).then(usual[i], "cell", 3, 1, i + 1).then(i == 0 ? v : 6, "cell", 3, 2, 0);
            }
            e.faulty(4, ahead.length(), ahead + (most[i] + 1) + ";").faulty(4, ahead.length(), ahead + "9999;");
        }
        for (int v : new int[] {0, 1, 8, 9}) {
            e.takes(0, HEAD + "mends " + v + ";").then(v, "told", 3);
        }
        e.faulty(4, H + 6, HEAD + "mends 10;").faulty(4, H + 6, HEAD + "mends 9999;");
    }

    private static void walkerNumbers() {
        Edge e = new Edge("Terms 1, WEIGHT (1 to 20), REACH (1 to 3), POLES so LONG (1 to 30), LOAD (0 to 20)").onNew();
        String start = HEAD + "walker a at 0 0 to 3 2 weight ";
        String[] ahead = {start, start + "5 reach ", start + "5 long ", start + "5 load "};
        int[] least = {1, 1, 1, 0};
        int[] most = {20, 3, 30, 20};
        for (int i = 0; i < 4; i++) {
            for (int v : new int[] {least[i], least[i] + 1, most[i] - 1, most[i]}) {
                e.takes(1, ahead[i] + v + ";").then(v, "walker", 0, i);
            }
            if (least[i] > 0) {
                e.faulty(4, ahead[i].length(), ahead[i] + "0;");
            }
            e.faulty(4, ahead[i].length(), ahead[i] + (most[i] + 1) + ";").faulty(4, ahead[i].length(), ahead[i] + "9999");
        }
    }

    private static void without() {
        Edge e = new Edge("Terms 1, their ODDS are 8; MENDS 0 without; REACH 1, LONG 10, LOAD 0 without").onNew();
        e.takes(1, HEAD + "walker a" + TAIL);
        e.then(8, "cell", 0, 0, 4).then(8, "cell", 3, 2, 4).then(0, "told", 3);
        e.then(5, "walker", 0, 0).then(1, "walker", 0, 1).then(10, "walker", 0, 2).then(0, "walker", 0, 3);
        // Nothing of a marsh ahead is left where the new one does not tell it.
        e.on("marsh 6 by 5 skin 9 soft 9 deep 30; mends 9; cell 3 2 skin 50 odds 1; firm 0 0;"
            + "walker a at 5 4 to 5 4 weight 20 reach 3 long 30 load 20;");
        e.takes(1, HEAD + "walker a" + TAIL).then(8, "cell", 3, 2, 4).then(6, "cell", 3, 2, 0).then(0, "told", 3).then(0, "told", 9);
        e.then(5, "walker", 0, 0).then(1, "walker", 0, 1).then(10, "walker", 0, 2).then(0, "walker", 0, 3);
    }

    private static void belowNought() {
        Edge e = new Edge("Terms 1, NUMBERS (1 to 4 digits): none is below 0").onNew();
        e.faulty(1, 6, "marsh -1 by 3").faulty(1, H + 6, HEAD + "mends -1;").faulty(1, H + 6, HEAD + "mends +1;");
        e.faulty(1, H + 5, HEAD + "firm -1 0;").faulty(2, H + 7, HEAD + "mends 1=5;").faulty(1, H + 7, HEAD + "mends 1.5;");
    }

    private static void firmAgain() {
        Edge e = new Edge("Terms 1, FIRM: that CELL is FIRM; CELL: another .. there; SKINS are whole at first").onNew();
        e.takes(0, HEAD + "firm 1 1; firm 1 1;").then(1, "told", 9).then(66, "told", 7);
        e.takes(0, HEAD + "firm 1 1; cell 1 1 skin 20;").then(1, "cell", 1, 1, 5).then(20, "cell", 1, 1, 0).then(66, "told", 7);
        e.takes(0, HEAD + "cell 1 1 skin 20; cell 1 1 soft 1; cell 1 1 skin 0;").then(0, "cell", 1, 1, 0).then(0, "cell", 1, 1, 1);
        e.then(1, "cell", 1, 1, 2).then(1, "told", 8);
        e.takes(1, HEAD + "walker a" + TAIL + "cell 0 0 skin 99;").then(99, "cell", 0, 0, 0);
        StringBuilder all = new StringBuilder(HEAD);
        for (int c = 0; c < 12; c++) {
            all.append("firm ").append(c % 4).append(' ').append(c / 4).append(';');
        }
        e.takes(0, all.toString()).then(12, "told", 9).then(0, "told", 7).then(0, "told", 8);
    }

    private static void numberedAsTheyStand() {
        Edge e = new Edge("Terms 1, WALKERS, at most 4: both POLES AT a CELL; all are numbered as they stand").onNew();
        StringBuilder b = new StringBuilder(HEAD);
        for (int w = 0; w < 4; w++) {
            e.takes(w, b.toString()).then(w, "told", 2).thenNo(1, "walker", w, 0).thenNo(1, "walker", -1, 0);
            b.append("walker ").append("dcba".charAt(w)).append(" at ").append(w).append(" 1 to 0 0 weight ").append(w + 1).append(";");
        }
        e.takes(4, b.toString());
        for (int w = 0; w < 4; w++) {
            e.then(w + 1, "walker", w, 0).then(w, "pole", w, 0, 0).then(w, "pole", w, 1, 0).then(1, "pole", w, 0, 1);
            e.then(0, "pole", w, 0, 2).then(0, "pole", w, 1, 2).then(2, "cell", w, 1, 6);
        }
        e.thenNo(1, "walker", 4, 0);
    }

    // ---- FAULTS

    private static void faultFirstAlong() {
        Edge e = new Edge("Terms 1, FAULTS, the first along the text").onNew();
        e.faulty(4, 6, "marsh 9 by 9 ?");
        e.faulty(2, H, HEAD + "; ? 12345 walker walker");
        e.faulty(1, H, HEAD + "? ;");
        e.faulty(4, H + 5, HEAD + "cell 9 9 9 ?");
        e.faulty(2, H + 8, HEAD + "mends 9 mends 9");
        e.faulty(5, H + 8, HEAD + "mends 9;mends 99;");
        e.faulty(4, H + 6, HEAD + "mends 99;mends 9;");
        String one = HEAD + "walker a" + TAIL;
        e.faulty(3, one.length() + 7, one + "walker a at 9 9 ?");
        e.faulty(4, one.length() + 12, one + "walker b at 9 9 to 0 0 weight 0; walker a");
    }

    private static void faultLeastKind() {
        Edge e = new Edge("Terms 1, FAULTS, of one TOKEN the least kind").onNew();
        // Five digits are no TOKEN, whatever must stand there; a NUMBER where a WORD must stand is 2, however great.
        e.faulty(1, 6, "marsh 99999").faulty(1, 8, "marsh 4 99999").faulty(2, 8, "marsh 4 9999");
        e.faulty(1, H + 7, HEAD + "walker 99999").faulty(2, H + 7, HEAD + "walker 9999").faulty(1, H + 7, HEAD + "mends 4?");
        e.faulty(1, 0, "?").faulty(1, H, HEAD + "00000").faulty(2, H, HEAD + "0000");
        // A second marsh ahead of its own end can't stand there; told already it is once the first one is over.
        e.faulty(2, 6, "marsh marsh").faulty(2, H - 1, HEAD.substring(0, H - 1) + "marsh").faulty(5, H, HEAD + "marsh");
        // A WORD of 9 letters where a NAME must stand is 2, though nobody has it.
        e.faulty(2, H + 7, HEAD + "walker abcdefghi at 9 9");
    }

    private static void faultNoToken() {
        Edge e = new Edge("Terms 1, FAULT 1 no TOKEN begins so").onNew();
        for (String bad : new String[] {"A", "Z", "_", "/", ":", "?", "@", "`", "{", "!", "#", ",", ".", "-", "\t", "\r", "\0"}) {
            e.faulty(1, 0, bad).faulty(1, 1, " " + bad).faulty(1, H, HEAD + bad).faulty(1, 5, "marsh" + bad);
            e.faulty(1, H + 5, HEAD + "mends" + bad + "3;").faulty(1, H + 7, HEAD + "mends 3" + bad);
        }
        e.faulty(1, H + 8, HEAD + "mends 3 " + (char) 128).faulty(1, H + 8, HEAD + "mends 3 " + (char) 255);
    }

    private static void faultTheEnd() {
        Edge e = new Edge("Terms 1, FAULT 2 it can't stand there (the end: the text's length)").onNew();
        String whole = "marsh 4 by 3 skin 6 soft 4 deep 9 ; mends 3 ; cell 1 1 skin 5 odds 3 ; firm 2 2 ; "
            + "walker ann at 0 0 to 3 2 weight 5 reach 2 load 4 ;";
        StringBuilder cut = new StringBuilder();
        for (String token : whole.split(" ")) {
            cut.append(token);
            if (token.equals(";")) {
                e.takes(cut.length() == whole.length() ? 1 : 0, cut.toString());
            } else {
                e.faulty(2, cut.length(), cut.toString()).faulty(2, cut.length() + 3, cut + " \n ");
            }
            cut.append(' ');
        }
    }

    private static void faultCanNotStand() {
        Edge e = new Edge("Terms 1, FAULT 2 it can't stand there").onNew();
        String[] parts = {"marsh 4 by 3 skin 6 soft 4 deep 9 ;", HEAD + "mends 3 ;", HEAD + "firm 1 2 ;", HEAD + "cell 1 2 skin 3 soft 3 deep 3 odds 3 ;",
            HEAD + "walker ann at 0 0 to 3 2 weight 5 reach 2 long 3 load 4 ;"};
        for (String part : parts) {
            int from = part.startsWith(HEAD) ? H : 0;
            String[] tokens = part.substring(from).split(" ");
            int place = from;
            for (String token : tokens) {
                String ahead = part.substring(0, place);
                String behind = part.substring(place + token.length());
                if (place > from) {
                    boolean digit = Character.isDigit(token.charAt(0));
                    String[] others = {digit ? "x" : "7", "<", "=", ">", digit ? ";" : "0000", "end"};
                    for (String other : others) {
                        e.faulty(2, place, ahead + other + behind);
                    }
                }
                place += token.length() + 1;
            }
        }
    }

    private static void faultAheadOfMarsh() {
        Edge e = new Edge("Terms 1, MARSH .. told ahead of all else; FAULT 2 a PART ahead of marsh: at its WORD").onNew();
        for (String part : new String[] {"mends 3;", "cell 0 0;", "firm 0 0;", "walker a" + TAIL}) {
            e.faulty(2, 0, part).faulty(2, 0, part + HEAD).faulty(2, 1, "\n" + part + HEAD);
            e.takes(part.startsWith("w") ? 1 : 0, HEAD + part);
        }
        e.faulty(2, 0, "mends ?").faulty(2, 0, "walker").faulty(2, 0, "mends 99;");
    }

    private static void faultToldAlready() {
        Edge e = new Edge("Terms 1, FAULT 5 marsh, mends told already (at that WORD)").onNew();
        e.faulty(5, H, HEAD + HEAD).faulty(5, H, HEAD + "marsh").faulty(5, H, HEAD + "marsh ?").faulty(5, H + 9, HEAD + "mends 3; marsh");
        e.takes(0, HEAD + "mends 0;").faulty(5, H + 8, HEAD + "mends 0;mends 0;").faulty(5, H + 8, HEAD + "mends 0;mends");
        e.faulty(5, H + 17, HEAD + "mends 9;firm 0 0;mends 9;");
        // The least MARSH, of one CELL, is told already as well.
        String least = "marsh 1 by 1 skin 0 soft 0 deep 0;";
        e.takes(0, least).faulty(5, least.length(), least + least).takes(0, least + "mends 1;");
        e.on(HEAD + "mends 3;");
        e.takes(0, HEAD + "mends 4;").then(4, "told", 3);
    }

    private static void faultFifthWalker() {
        Edge e = new Edge("Terms 1, FAULT 6 a fifth walker (at that WORD)").onNew();
        StringBuilder b = new StringBuilder(HEAD);
        for (String name : new String[] {"a", "b", "c", "d"}) {
            b.append("walker ").append(name).append(TAIL);
        }
        String four = b.toString();
        e.takes(4, four).faulty(6, four.length(), four + "walker").faulty(6, four.length(), four + "walker e" + TAIL);
        e.faulty(6, four.length(), four + "walker a" + TAIL).faulty(6, four.length() + 1, four + " walker ?");
        e.takes(4, four + "mends 1;").faulty(6, four.length() + 8, four + "mends 1;walker e" + TAIL);
        e.faulty(2, four.length(), four + "walkers");
    }

    private static void takenInPlace() {
        Edge e = new Edge("Terms 1, A MARSH that is taken is there in place of that ahead; it is MOMENT 0, nobody is FALLEN, no MORNINGS");
        String sinks = "marsh 2 by 1 skin 0 soft 9 deep 9; mends 2; walker a at 0 0 to 1 0 weight 20 long 1; walker b at 1 0 to 1 0 weight 1;";
        e.on(sinks).mornings("stand 1; any a;").after("mark").after("step", 1, 0, 1, 0).after("stand", 3).after("live", 5);
        e.yes(1, "told", 5).then(1, "walker", 1, 7);
        e.takes(2, sinks).then(0, "told", 4).then(0, "told", 5).then(0, "walker", 1, 7).then(0, "pole", 0, 0, 2);
        e.thenNo(6, "live", 0).then(1, "lived", 0).then(0, "undo").then(0, "told", 4).then(2, "live", 0);
        // With a fault it stays, with its MOMENT, who is FALLEN, its MORNINGS.
        e.faulty(2, sinks.length(), sinks + "x");
        e.on(sinks).mornings("stand 1; any a;").after("stand", 3).fed("marsh");
        e.thenNo(9, "marsh", 5).then(3, "told", 4).then(1, "told", 5).then(2, "live", 0);
        e.takes(0, "").then(0, "told", 4).then(0, "told", 5).then(0, "told", 2).thenNo(6, "live", 0);
    }

    private static void takenOfNoCells() {
        Edge e = new Edge("Terms 1, A MARSH that is taken is there in place of that ahead: one of no CELLS");
        e.on(HEAD + "mends 3; firm 1 1; walker a" + TAIL).after("tray", 0, 0, 0).takes(0, "");
        for (int what = 0; what <= 10; what++) {
            e.then(0, "told", what);
        }
        e.thenNo(1, "gone", 0).thenNo(1, "luck", 0).thenNo(1, "cell", 0, 0, 0).thenNo(1, "walker", 0, 0).thenNo(1, "copyRow", 0, 0);
        e.thenNo(6, "luckiest").thenNo(6, "mostPlanks").then(1, "tracks", 0).then(0, "sure", 0);
    }

    private static void takenBehindMean() {
        Edge e = new Edge("Terms 1, it is MOMENT 0, nobody is FALLEN: whatever a mean() has tried ahead");
        String sinks = "marsh 2 by 1 skin 0 soft 9 deep 9; walker a at 0 0 to 1 0 weight 20 long 1; walker b at 1 0 to 1 0 weight 1;";
        e.on(sinks).mornings("stand 2; step b 0 1 0;").after("step", 1, 0, 1, 0).after("mean", 0, 2).takes(2, sinks);
        e.then(0, "told", 4).then(0, "told", 5).then(0, "walker", 0, 7).then(0, "walker", 1, 7).then(0, "pole", 0, 0, 2).thenNo(6, "live", 0);
        e.takes(0, HEAD).then(0, "told", 4).then(0, "told", 5).then(0, "told", 6);
    }
}
