/** Terms, ==== 4.: MORNINGS, how they are read and LIVED, draws, MARKS, FRACTIONS. One method for each sentence. */
final class EdgeTerms4Tests {
    private static final String LAND = "marsh 4 by 3 skin 50 soft 8 deep 9;";
    private static final String TWO = LAND + "walker ann at 1 1 to 1 2 weight 2 load 5; walker bo at 1 1 to 2 2 weight 4 load 18;";
    /** 298 steps of the text and as many moments, but for the loop itself. */
    private static final String MANY = "loop 99; stand 1; stand 1; stand 1; end;";

    private EdgeTerms4Tests() {
    }

    public static void main(String[] args) {
        bytes();
        noneAtFirst();
        stepsAnyNumber();
        canNotStand();
        numberIsNoWord();
        beginsAnew();
        ends();
        theEnd();
        namesOfNobody();
        numbers();
        numbersOfCells();
        thirtyFirst();
        withinThree();
        leastKind();
        standSoMany();
        anyBeside();
        anyDrawsFirst();
        missedStep();
        missedHand();
        missedFallsIsDone();
        missedBeyond();
        skinCompares();
        loopAsOften();
        most300();
        countedFromAhead();
        livedSeeds();
        livedAsItIs();
        marksMost();
        marksKeep();
        fractions();
        Check.close("EdgeTerms4Tests");
    }

    // ---- how they are read

    private static void bytes() {
        Edge e = new Edge("Terms 4, MORNINGS are a TEXT of at most 300 bytes").on(TWO);
        for (int n : new int[] {299, 300}) {
            e.takesMornings(2, "stop;" + " ".repeat(n - 13) + "any ann;");
        }
        String text = "stop;" + " ".repeat(287) + "any ann;" + " ".repeat(20);
        e.on(TWO).fed(text);
        e.yes(2, "mornings", 300).thenNo(1, "mornings", 1);
        e.no(1, "mornings", 301).no(1, "mornings", 320).no(1, "mornings", 321);
        e.yes(1, "mornings", 291).then(1, "live", 0);
        e.thenFed(text).thenNo(9, "mornings", 299).tells(2, "fault", 0).tells(299, "fault", 1);
    }

    private static void noneAtFirst() {
        Edge e = new Edge("Terms 4, MORNINGS (none at first)").onNew().no(6, "live", 0).no(6, "mean", 0, 1);
        e.on(TWO).no(6, "live", 0).no(6, "mean", 0, 1).takesMornings(1, "stop;").then(1, "live", 0);
    }

    private static void stepsAnyNumber() {
        Edge e = new Edge("Terms 4, MORNINGS: {STEP}, {STEP} end").on(TWO);
        e.takesMornings(0, "").takesMornings(0, " \n ").takesMornings(1, "stop;").takesMornings(1, "loop 1;end;");
        e.takesMornings(2, "loop 1;stop;end;").takesMornings(3, "when home ann;stop;stop;end;").takesMornings(2, "loop 1;end;loop 1;end;");
        e.takesMornings(2, "loop1;loop1;end;end;").takesMornings(30, "stop;".repeat(30));
    }

    private static void canNotStand() {
        Edge e = new Edge("Terms 4, FAULT 2 as above: it can't stand there").on(TWO);
        String[] steps = {"step ann 1 3 2 ;", "stand 3 ;", "hand ann bo 3 ;", "any ann ;", "when fallen ann ; end ;", "when home bo ; end ;",
            "when skin 3 2 < 9 ; end ;", "loop 9 ; end ;", "stop ;"};
        for (String step : steps) {
            int place = 0;
            e.takesMornings(1, step);
            for (String token : step.split(" ")) {
                String ahead = step.substring(0, place);
                String behind = step.substring(place + token.length());
                boolean isSign = token.equals("<");
                String[] others = Character.isDigit(token.charAt(0)) ? new String[] {"ann", ";", "<", "end"}
                    : isSign ? new String[] {"ann", ";", "1", "end"} : new String[] {"1", "0000", "=", "marsh", "abcdefghi"};
                for (String other : others) {
                    e.faultyMornings(2, place, ahead + other + behind);
                }
                e.faultyMornings(1, place, ahead + "!" + behind).faultyMornings(1, place, ahead + "00001" + behind);
                place += token.length() + 1;
            }
        }
        for (String word : "marsh by skin soft deep mends cell odds firm walker at to weight reach long load fallen home".split(" ")) {
            e.faultyMornings(2, 0, word + " 1;").faultyMornings(2, 6, "stop; " + word + ";");
        }
        e.faultyMornings(2, 5, "when ;").faultyMornings(2, 5, "when ; end;").faultyMornings(2, 5, "loop ; end;").faultyMornings(2, 5, "stop 1;");
        for (String sign : new String[] {"<", ">", "="}) {
            e.takesMornings(1, "when skin 0 0 " + sign + " 3; end;").takesMornings(1, "when skin 0 0" + sign + "3;end;");
        }
        e.faultyMornings(2, 0, ";").faultyMornings(2, 5, "stop;;").faultyMornings(2, 0, "ann 1 1 1;");
    }

    private static void numberIsNoWord() {
        // Every NUMBER there is, where a WORD must stand.
        StiltMarsh x = null;
        for (int number = 0; number <= 9999; number++) {
            if (number % 100 == 0) {
                x = Check.marsh(TWO);
            }
            String text = number + " ann;";
            Check.badMornings(x, text, 2, 0);
        }
    }

    private static void beginsAnew() {
        Edge e = new Edge("Terms 4, MORNINGS: {STEP}: nothing of a text with a FAULT is left for the next one").on(TWO);
        String three = "loop 1;loop 1;loop 1;";
        e.fed(three).thenNo(9, "mornings", 21).thenFed("end;").thenNo(9, "mornings", 4).tells(2, "fault", 0).tells(0, "fault", 1);
        e.on(TWO).fed(three).thenNo(9, "mornings", 21).thenFed(three + "end;end;end;").then(3, "mornings", 33).then(3, "live", 0);
        e.on(TWO).fed("stop;".repeat(31)).thenNo(9, "mornings", 155).thenFed("stop;".repeat(30)).then(30, "mornings", 150).then(1, "live", 0);
    }

    private static void ends() {
        Edge e = new Edge("Terms 4, FAULT 2 (an end without a beginning; the text's end ahead of an end: 2)").on(TWO);
        e.faultyMornings(2, 0, "end;").faultyMornings(2, 1, " end").faultyMornings(2, 5, "stop;end;").faultyMornings(2, 11, "loop 1;end;end;");
        e.takesMornings(1, "loop 1;end;").faultyMornings(2, 10, "loop 1;end").faultyMornings(2, 7, "loop 1;").faultyMornings(2, 9, "loop 1; \n");
        e.faultyMornings(2, 11, "loop 1;end 1;").faultyMornings(2, 18, "loop 1;loop 1;end;").takesMornings(2, "loop 1;loop 1;end;end;");
        e.faultyMornings(2, 22, "loop 1;loop 1;end;end;end;").faultyMornings(2, 14, "when home ann;").faultyMornings(2, 19, "when home ann;stop;");
    }

    private static void theEnd() {
        Edge e = new Edge("Terms 4, FAULT 2 as above (the end: the text's length)").on(TWO);
        String whole = "step ann 1 3 2 ; stand 3 ; hand ann bo 3 ; any ann ; loop 9 ; stop ; end ; when skin 3 2 < 9 ; end ;";
        StringBuilder cut = new StringBuilder();
        int open = 0;
        int steps = 0;
        for (String token : whole.split(" ")) {
            cut.append(token);
            open += token.equals("loop") || token.equals("when") ? 1 : token.equals("end") ? -1 : 0;
            steps += token.equals(";") && !cut.toString().endsWith("end ;") ? 1 : 0;
            if (token.equals(";") && open == 0) {
                e.takesMornings(steps, cut.toString());
            } else {
                e.faultyMornings(2, cut.length(), cut.toString()).faultyMornings(2, cut.length() + 2, cut + "\n ");
            }
            cut.append(' ');
        }
    }

    private static void namesOfNobody() {
        Edge e = new Edge("Terms 4, FAULT 3 a NAME that is no WALKER").on(TWO);
        for (String name : new String[] {"an", "anna", "b", "boo", "c", "abcdefgh"}) {
            e.faultyMornings(3, 4, "any " + name + ";").faultyMornings(3, 5, "step " + name + " 9 9 9;").faultyMornings(3, 5, "hand " + name + " " + name);
            e.faultyMornings(3, 9, "hand ann " + name + " 99").faultyMornings(3, 12, "when fallen " + name + ";").faultyMornings(3, 10, "when home " + name);
        }
        e.takesMornings(1, "any ann;").takesMornings(1, "any bo;").takesMornings(1, "hand ann ann 1;");
        e.on(LAND).faultyMornings(3, 4, "any ann;");
        e.onNew().faultyMornings(3, 4, "any ann;").takesMornings(1, "stand 1;");
    }

    private static void numbers() {
        Edge e = new Edge("Terms 4, stand: so many (1 to 20); hand: 1 to 20; skin: 0 to 99; loop n (1 to 99); POLE 0 or 1").on(TWO);
        String[] ahead = {"stand ", "hand ann bo ", "loop ", "when skin 0 0 < ", "when skin 0 0 = ", "when skin 0 0 > ", "step ann "};
        String[] behind = {";", ";", ";end;", ";end;", ";end;", ";end;", " 1 1;"};
        int[] least = {1, 1, 1, 0, 0, 0, 0};
        int[] most = {20, 20, 99, 99, 99, 99, 1};
        for (int i = 0; i < ahead.length; i++) {
            for (int v : new int[] {least[i], least[i] + 1, most[i] - 1, most[i]}) {
                e.takesMornings(1, ahead[i] + v + behind[i]);
            }
            e.faultyMornings(4, ahead[i].length(), ahead[i] + (most[i] + 1) + behind[i]).faultyMornings(4, ahead[i].length(), ahead[i] + "9999");
            if (least[i] > 0) {
                e.faultyMornings(4, ahead[i].length(), ahead[i] + "0" + behind[i]);
            }
            e.faultyMornings(1, ahead[i].length(), ahead[i] + "-1" + behind[i]).faultyMornings(1, ahead[i].length(), ahead[i] + "00001" + behind[i]);
        }
    }

    private static void numbersOfCells() {
        Edge e = new Edge("Terms 4, FAULT 4 a NUMBER that can't be (a step's: POLE 0 or 1, column, row)");
        int[][] sizes = {{1, 1}, {6, 5}, {4, 3}};
        for (int[] size : sizes) {
            int c = size[0] - 1;
            int r = size[1] - 1;
            e.on("marsh " + size[0] + " by " + size[1] + " skin 9 soft 1 deep 1; walker ann at 0 0 to 0 0 weight 1;");
            e.takesMornings(1, "step ann 0 0 0;").takesMornings(1, "step ann 1 " + c + " " + r + ";").takesMornings(1, "when skin " + c + " " + r + " < 9;end;");
            e.faultyMornings(4, 11, "step ann 0 " + (c + 1) + " " + r + ";").faultyMornings(4, 13, "step ann 0 " + c + " " + (r + 1) + ";");
            e.faultyMornings(4, 10, "when skin " + (c + 1) + " " + r + " < 9;end;").faultyMornings(4, 12, "when skin " + c + " " + (r + 1) + " < 9;end;");
            e.faultyMornings(4, 9, "step ann 2 9 9;");
        }
        e.onNew().faultyMornings(4, 10, "when skin 0 0 = 0;end;");
    }

    private static void thirtyFirst() {
        Edge e = new Edge("Terms 4, FAULT 6 a 31st STEP (at its WORD; end is none)").on(TWO);
        e.takesMornings(29, "stop;".repeat(29)).takesMornings(30, "stop;".repeat(30)).faultyMornings(6, 150, "stop;".repeat(31));
        e.faultyMornings(6, 150, "stop;".repeat(30) + "stop").faultyMornings(6, 151, "stop;".repeat(30) + " any zoe").faultyMornings(6, 150, "stop;".repeat(30) + "loop");
        e.takesMornings(30, "stop;".repeat(28) + "loop 1;stop;end;").faultyMornings(6, 156, "stop;".repeat(28) + "loop 1;stop;end;stop;");
        e.takesMornings(30, "loop 1;end;".repeat(10) + "loop 9;" + "stop;".repeat(19) + "end;");
        // As many ends as can be, by all of 300 bytes; the last one is needed as well.
        e.takesMornings(30, "loop9;end;".repeat(30)).then(30, "live", 0).then(0, "lived", 4);
        e.faultyMornings(2, 296, "loop9;end;".repeat(29) + "loop9;");
        e.faultyMornings(6, 110 + 7 + 95, "loop 1;end;".repeat(10) + "loop 9;" + "stop;".repeat(19) + "stand 1;end;");
        e.faultyMornings(2, 150, "stop;".repeat(30) + "end;").faultyMornings(2, 150, "stop;".repeat(30) + "ann").faultyMornings(2, 150, "stop;".repeat(30) + "1");
        e.faultyMornings(1, 150, "stop;".repeat(30) + "?").faultyMornings(2, 150, "stop;".repeat(30) + ";");
    }

    private static void withinThree() {
        Edge e = new Edge("Terms 4, FAULT 7 a when, loop within three others (at its WORD)").on(TWO);
        String[] opens = {"loop 1;", "when home bo;"};
        for (String first : opens) {
            for (String last : opens) {
                String three = first + opens[0] + opens[1];
                e.takesMornings(2, first + last + "end;end;").takesMornings(3, first + opens[0] + last + "end;end;end;");
                e.faultyMornings(7, three.length(), three + last + "end;end;end;end;").faultyMornings(7, three.length() + 1, three + " " + last.substring(0, 4));
                e.takesMornings(4, three + "end;" + last + "end;end;end;").faultyMornings(7, three.length() + 4 + last.length(), three + "end;" + last + opens[0]);
                e.takesMornings(4, three + "stop;end;end;end;").takesMornings(4, three + "end;end;end;" + last + "end;");
            }
        }
    }

    private static void leastKind() {
        Edge e = new Edge("Terms 4, FAULTS: of one TOKEN the least kind").on(TWO);
        String deep = "stop;".repeat(27) + "loop 1;loop 1;loop 1;";
        e.faultyMornings(6, 156, deep + "loop 1;").faultyMornings(6, 156, deep + "when").faultyMornings(7, 151, deep.substring(5) + "loop 1;");
        e.faultyMornings(1, 6, "stand 99999").faultyMornings(4, 6, "stand 9999").faultyMornings(1, 4, "any 99999").faultyMornings(2, 4, "any 9999");
        e.faultyMornings(2, 4, "any abcdefghi").faultyMornings(3, 4, "any abcdefgh");
    }

    // ---- how they are LIVED

    private static Edge lives(Edge e, int done, int... lived) {
        e.yes(done, "live", 0);
        for (int i = 0; i < lived.length; i++) {
            e.then(lived[i], "lived", i);
        }
        return e;
    }

    private static void standSoMany() {
        Edge e = new Edge("Terms 4, stand: so many (1 to 20)");
        for (int n : new int[] {1, 2, 19, 20}) {
            e.on(LAND + "walker ann at 1 1 to 1 2 weight 1;").mornings("stand " + n + ";");
            lives(e, 1, 0, n, 0, 0, 0).then(n, "told", 4).then(50 - 2 * n, "cell", 1, 1, 0);
        }
    }

    private static void anyBeside() {
        Edge e = new Edge("Terms 4, any: a POLE by a draw by 2, beside that of the other POLE by a draw by 4 (0: a column more, 1: a row more, 2: a column less, 3: a row less)");
        // By hand: the first two draws of seven seeds.
        int[][] draws = {{0, 1, 1}, {1, 0, 2}, {2, 0, 0}, {3, 0, 1}, {4999, 0, 1}, {9998, 1, 1}, {9999, 1, 2}};
        int[][] sides = {{1, 0}, {0, 1}, {-1, 0}, {0, -1}};
        for (int[] d : draws) {
            for (int c = 0; c < 3; c++) {
                for (int r = 0; r < 3; r++) {
                    int toC = c + sides[d[2]][0];
                    int toR = r + sides[d[2]][1];
                    boolean there = toC >= 0 && toC < 3 && toR >= 0 && toR < 3;
                    e.on("marsh 3 by 3 skin 50 soft 8 deep 9; walker ann at " + c + " " + r + " to 0 0 weight 2;").mornings("any ann;");
                    e.yes(1, "live", d[0]).then(there ? 0 : 1, "lived", 0).then(there ? 1 : 0, "lived", 1).then(there ? 1 : 0, "lived", 2);
                    e.then(there ? toC : c, "pole", 0, d[1], 0).then(there ? toR : r, "pole", 0, d[1], 1);
                    e.then(c, "pole", 0, 1 - d[1], 0).then(r, "pole", 0, 1 - d[1], 1);
                }
            }
        }
        anyOfEach(e);
        // Beside the other pole, not beside itself: pole 1 stands at 2 1, pole 0 at 1 1; seed 1 draws pole 0, a column less.
        e.on("marsh 3 by 3 skin 50 soft 8 deep 9; walker ann at 1 1 to 0 0 weight 2;").mornings("any ann;").after("step", 0, 1, 2, 1);
        e.yes(1, "live", 1).then(1, "pole", 0, 0, 0).then(0, "lived", 0).then(2, "walker", 0, 7);
    }

    /** Four walkers far from one another, the poles of each apart: by his own other pole alone. */
    private static void anyOfEach(Edge e) {
        String names = "abcd";
        for (int w = 0; w < 4; w++) {
            StringBuilder b = new StringBuilder("marsh 5 by 5 skin 50 soft 0 deep 0;");
            for (int i = 0; i < 4; i++) {
                b.append("walker ").append(names.charAt(i)).append(" at ").append(1 + 2 * (i % 2)).append(' ').append(1 + 2 * (i / 2)).append(" to 0 0 weight 1;");
            }
            int c = 1 + 2 * (w % 2);
            int r = 1 + 2 * (w / 2);
            e.on(b.toString()).mornings("any " + names.charAt(w) + ";").after("step", w, 0, c, r + 1);
            // Seed 9,998: pole 1, a row more, beside pole 0; seed 1: pole 0, a column less, beside pole 1.
            if (r + 2 < 5) {
                e.yes(1, "live", 9998).then(c, "pole", w, 1, 0).then(r + 2, "pole", w, 1, 1).then(0, "lived", 0);
            } else {
                e.yes(1, "live", 9998).then(r, "pole", w, 1, 1).then(1, "lived", 0);
            }
            e.yes(1, "live", 1).then(c - 1, "pole", w, 0, 0).then(r, "pole", w, 0, 1).then(0, "lived", 0).then(2, "walker", w, 7);
            for (int other = 0; other < 4; other++) {
                if (other != w) {
                    e.then(0, "walker", other, 7).then(1 + 2 * (other % 2), "pole", other, 0, 0);
                }
            }
        }
    }

    private static void anyDrawsFirst() {
        Edge e = new Edge("Terms 4, (both draws come first)");
        // Seed 1: pole 0, a column less; then pole 0, a row less. The first one is missed by who is fallen, at the edge, or late.
        String land = "marsh 3 by 3 skin 50 soft 8 deep 9; cell 0 2 skin 0; walker bo at 1 1 to 0 0 weight 2; walker ann at ";
        e.on(land + "0 1 to 0 0 weight 2;").mornings("any ann; any bo;");
        e.yes(2, "live", 1).then(1, "lived", 0).then(1, "pole", 0, 0, 0).then(0, "pole", 0, 0, 1);
        e.on(land + "0 2 to 0 0 weight 20 long 1;").after("stand", 1).mornings("any ann; any bo;");
        e.yes(2, "live", 1).then(1, "lived", 0).then(1, "pole", 0, 0, 0).then(0, "pole", 0, 0, 1);
        e.on(land + "1 1 to 0 0 weight 2;").mornings("any ann; any bo;");
        e.yes(2, "live", 1).then(0, "lived", 0).then(0, "pole", 1, 0, 0).then(1, "pole", 1, 0, 1).then(1, "pole", 0, 0, 0).then(0, "pole", 0, 0, 1);
    }

    private static void missedStep() {
        Edge e = new Edge("Terms 4, What can't be is MISSED: a step");
        for (int reach = 1; reach <= 3; reach++) {
            for (int c = 0; c <= 5; c++) {
                boolean near = c <= reach;
                e.on("marsh 6 by 1 skin 50 soft 0 deep 0; walker ann at 0 0 to 0 0 weight 1 reach " + reach + ";").mornings("step ann 0 " + c + " 0;");
                lives(e, 1, near ? 0 : 1, near ? 1 : 0, near ? 1 : 0, 0, 0).then(near ? c : 0, "pole", 0, 0, 0).then(near ? 1 : 0, "told", 4);
            }
        }
        e.on("marsh 2 by 1 skin 0 soft 9 deep 9; walker ann at 0 0 to 0 0 weight 20 long 1;").mornings("step ann 0 0 0;").after("stand", 1);
        lives(e, 1, 1, 0, 0, 0, 0).then(1, "told", 4).then(0, "walker", 0, 7);
    }

    private static void missedHand() {
        Edge e = new Edge("Terms 4, What can't be is MISSED: a hand that can't be, one to himself");
        String text = "marsh 6 by 1 skin 0 soft 9 deep 9; firm 0 0; firm 1 0; firm 2 0; walker ann at 0 0 to 0 0 weight 1 load 5;"
            + "walker bo at 1 0 to 0 0 weight 1 load 18; walker cy at 2 0 to 0 0 weight 1; walker di at 5 0 to 0 0 weight 20 long 1 load 1;";
        Object[][] hands = {{"ann bo 1", 0}, {"ann bo 2", 0}, {"ann bo 3", 1}, {"bo ann 15", 0}, {"bo ann 16", 1}, {"bo cy 18", 0}, {"bo cy 19", 1},
            {"ann cy 1", 1}, {"ann ann 1", 1}, {"cy bo 1", 1}, {"di di 1", 1}, {"di cy 1", 1}, {"bo ann 20", 1}};
        for (Object[] hand : hands) {
            e.on(text).mornings("hand " + hand[0] + ";");
            lives(e, 1, (Integer) hand[1], 0, 0, 0, 0).then(24, "told", 10).then(0, "told", 4);
        }
        // Beside each other, but fallen: the taker, the giver.
        String fall = "marsh 2 by 1 skin 0 soft 9 deep 9; firm 0 0; walker ann at 0 0 to 0 0 weight 1 load 5; walker di at 1 0 to 0 0 weight 20 long 1 load 5;";
        e.on(fall).mornings("hand ann di 1; hand di ann 1;");
        lives(e, 2, 0, 0, 0, 0, 0);
        e.on(fall).mornings("hand ann di 1; hand di ann 1;").after("stand", 1);
        lives(e, 2, 2, 0, 0, 0, 0).then(5, "walker", 0, 3);
    }

    private static void missedFallsIsDone() {
        Edge e = new Edge("Terms 4, (a step in which he falls is done)");
        // By 6 in the one moment.
        for (int length = 5; length <= 7; length++) {
            boolean falls = length <= 6;
            e.on("marsh 2 by 1 skin 0 soft 8 deep 30; walker ann at 0 0 to 0 0 weight 6 long " + length + ";").mornings("step ann 1 1 0;");
            lives(e, 1, 0, 1, falls ? 0 : 1, falls ? 1 : 0, 0).then(falls ? 0 : 1, "pole", 0, 1, 0);
        }
    }

    private static void missedBeyond() {
        Edge e = new Edge("Terms 4, MISSED: MOMENTS beyond 9,999 (of a step, of a stand as a whole)");
        String text = "marsh 2 by 1 skin 0 soft 8 deep 4; walker ann at 0 0 to 0 0 weight 2 long 30;";
        for (int moment : new int[] {9979, 9980, 9998, 9999}) {
            int left = 9999 - moment;
            for (int n : new int[] {1, 2, 19, 20}) {
                boolean fits = n <= left;
                e.on(text).mornings("stand " + n + ";").till(moment);
                lives(e, 1, fits ? 0 : 1, fits ? n : 0, 0, 0, 0).then(fits ? moment + n : moment, "told", 4);
            }
        }
        // Sunk by 4: three moments. By any, too: seed 0 draws pole 1, a row more, which is outside; seed 2 pole 0, a column more.
        for (int moment : new int[] {9995, 9996, 9997, 9999}) {
            boolean fits = moment <= 9996;
            e.on(text).mornings("step ann 0 1 0;").till(moment);
            lives(e, 1, fits ? 0 : 1, fits ? 3 : 0, fits ? 1 : 0, 0, 0).then(fits ? moment + 3 : moment, "told", 4).then(fits ? 1 : 0, "pole", 0, 0, 0);
            e.on(text).mornings("any ann;").till(moment);
            e.yes(1, "live", 2).then(fits ? 0 : 1, "lived", 0).then(fits ? 3 : 0, "lived", 1).then(fits ? moment + 3 : moment, "told", 4);
        }
        missedBeyondOfEach(e);
        // A hand takes no moment, so it can be at 9,999.
        e.on("marsh 1 by 1 skin 0 soft 0 deep 0; walker ann at 0 0 to 0 0 weight 1 load 1; walker bo at 0 0 to 0 0 weight 1;").mornings("hand ann bo 1;").till(9999);
        lives(e, 1, 0, 0, 0, 0, 0).then(1, "walker", 1, 3);
    }

    /** One pole of one of three is sunk by 4, all others are not: its step takes three moments, that of his other pole one. */
    private static void missedBeyondOfEach(Edge e) {
        String land = "marsh 2 by 1 skin 0 soft 8 deep 30; firm 0 0;";
        String walkers = "walker ann at 0 0 to 0 0 weight 2 long 30; walker bo at 0 0 to 0 0 weight 2 long 30; walker cy at 0 0 to 0 0 weight 2 long 30;";
        String[] names = {"ann", "bo", "cy"};
        for (int w = 0; w < 3; w++) {
            for (int pole = 0; pole < 2; pole++) {
                for (int moment = 9996; moment <= 9999; moment++) {
                    e.on(land + walkers).mornings("step " + names[w] + " " + pole + " 0 0;").till(moment - 5).after("step", w, pole, 1, 0).after("stand", 4);
                    boolean fits = moment <= 9996;
                    lives(e, 1, fits ? 0 : 1, fits ? 3 : 0, fits ? 1 : 0, 0, 0).then(fits ? 0 : 1, "pole", w, pole, 0);
                    // By his other pole: one moment.
                    e.on(land + walkers).mornings("step " + names[w] + " " + (1 - pole) + " 0 0;").till(moment - 5).after("step", w, pole, 1, 0).after("stand", 4);
                    fits = moment <= 9998;
                    lives(e, 1, fits ? 0 : 1, fits ? 1 : 0, fits ? 1 : 0, 0, 0).then(4 + (fits ? 2 : 0), "pole", w, pole, 2);
                }
            }
        }
    }

    private static void skinCompares() {
        Edge e = new Edge("Terms 4, TEST: skin NUMBER NUMBER COMPARES NUMBER; skin: 0 to 99");
        for (int skin : new int[] {0, 1, 49, 50, 51, 98, 99}) {
            e.on("marsh 2 by 2 skin 7 soft 0 deep 0; cell 1 0 skin " + skin + ";");
            for (int than : new int[] {0, 1, 49, 50, 51, 98, 99}) {
                boolean[] holds = {skin < than, skin > than, skin == than};
                for (int i = 0; i < 3; i++) {
                    String text = "when skin 1 0 " + "<>=".charAt(i) + than + "; stand 1; end;";
                    e.takesMornings(2, text).then(holds[i] ? 2 : 1, "live", 0).then(holds[i] ? 1 : 0, "lived", 1);
                }
            }
        }
        // Of a FIRM one, too, and by column ahead of row.
        e.on("marsh 2 by 2 skin 7 soft 0 deep 0; cell 1 0 skin 3; cell 0 1 skin 4; firm 1 0;").takesMornings(2, "when skin 1 0 = 3; stop; end;").then(2, "live", 0);
        e.takesMornings(2, "when skin 0 1 = 4; stop; end;").then(2, "live", 0);
    }

    private static void loopAsOften() {
        Edge e = new Edge("Terms 4, loop n (1 to 99): as often").on(LAND);
        for (int n : new int[] {1, 2, 3, 98, 99}) {
            e.takesMornings(2, "loop " + n + "; stand 1; end;").then(n + 1, "live", 0).then(n, "lived", 1).then(0, "lived", 4);
            e.takesMornings(2, "loop " + n + "; end; stand 1;").then(2, "live", 0).then(1, "lived", 1);
        }
        e.takesMornings(3, "loop 2; loop 3; stand 1; end; end;").then(9, "live", 0).then(6, "lived", 1);
        e.takesMornings(4, "loop 2; loop 3; loop 4; stand 1; end; end; end;").then(33, "live", 0).then(24, "lived", 1);
        e.takesMornings(3, "loop 9; stop; stand 1; end;").then(2, "live", 0).then(0, "lived", 1).then(0, "lived", 4);
    }

    private static void most300() {
        Edge e = new Edge("Terms 4, At most 300 STEPS").on(LAND);
        e.takesMornings(4, MANY).then(298, "live", 0).then(297, "lived", 1).then(0, "lived", 4);
        e.takesMornings(5, MANY + "stand 1;").then(299, "live", 0).then(298, "lived", 1).then(0, "lived", 4);
        e.takesMornings(6, MANY + "stand 1; stand 1;").then(300, "live", 0).then(299, "lived", 1).then(0, "lived", 4);
        e.takesMornings(7, MANY + "stand 1; stand 1; stand 1;").then(300, "live", 0).then(299, "lived", 1).then(1, "lived", 4);
        e.takesMornings(7, MANY + "stand 1; stand 1; stop;").then(300, "live", 0).then(299, "lived", 1).then(1, "lived", 4);
        e.takesMornings(7, MANY + "stand 1; stand 1; loop 1; end;").then(300, "live", 0).then(1, "lived", 4);
        e.takesMornings(7, MANY + "stand 1; stand 1; when skin 0 0 > 99; end;").then(300, "live", 0).then(1, "lived", 4);
        e.takesMornings(6, MANY + "stand 1; stop;").then(300, "live", 0).then(298, "lived", 1).then(0, "lived", 4);
        e.takesMornings(6, MANY + "stand 1; loop 99; end;").then(300, "live", 0).then(0, "lived", 4);
        // MISSED ones count as well.
        e.on(TWO).takesMornings(2, "loop 99; hand ann ann 1; end;").then(100, "live", 0).then(99, "lived", 0);
        e.takesMornings(3, "loop 99; loop 99; hand ann ann 1; end; end;").then(300, "live", 0).then(296, "lived", 0).then(1, "lived", 4);
    }

    private static void countedFromAhead() {
        Edge e = new Edge("Terms 4, (when, loop count as one each time they are come to from ahead; end does not)").on(LAND);
        e.takesMornings(1, "loop 99; end;").then(1, "live", 0).takesMornings(2, "loop 99; loop 1; end; end;").then(100, "live", 0);
        e.takesMornings(2, "loop 99; when skin 0 0 = 50; end; end;").then(100, "live", 0).takesMornings(2, "loop 99; when skin 0 0 = 9; end; end;").then(100, "live", 0);
        e.takesMornings(3, "loop 99; when skin 0 0 = 9; stand 1; end; end;").then(100, "live", 0).then(0, "lived", 1);
        e.takesMornings(3, "loop 99; when skin 0 0 = 50; stand 1; end; end;").then(199, "live", 0).then(99, "lived", 1);
        e.takesMornings(3, "loop 99; loop 99; loop 99; end; end; end;").then(300, "live", 0).then(1, "lived", 4);
        // 300 with nothing but ends behind it: no STEP is left.
        e.takesMornings(6, "loop 1; stand 1; loop 99; stand 1; stand 1; stand 1; end; end;").then(300, "live", 0).then(0, "lived", 4);
        e.takesMornings(7, "loop 1; stand 1; loop 99; stand 1; stand 1; stand 1; end; end; stop;").then(300, "live", 0).then(1, "lived", 4);
        e.takesMornings(6, "loop 2; stand 1; loop 99; stand 1; stand 1; stand 1; end; end;").then(300, "live", 0).then(1, "lived", 4);
    }

    private static void livedSeeds() {
        Edge e = new Edge("Terms 4, LIVED by a seed (0 to 9,999)").on(TWO).mornings("any ann; any bo;");
        e.no(1, "live", -1).no(1, "live", 10000).no(1, "live", Integer.MIN_VALUE).no(1, "live", Integer.MAX_VALUE);
        e.yes(2, "live", 0).yes(2, "live", 1).yes(2, "live", 9998).yes(2, "live", 9999);
        // Four draws in a row from 9,999 on: pole 1, a column less; pole 1, a row more; pole 1, a column less; pole 0, a column more.
        e = new Edge("Terms 4, Draws: s becomes what is left of s times 3,037 and 11,257 by 65,536; the rest of s by 8, rounded down, by n");
        e.on(LAND + "walker ann at 1 1 to 0 0 weight 1;").mornings("any ann;").yes(1, "live", 9999).then(0, "pole", 0, 1, 0).then(1, "pole", 0, 1, 1);
        e.on(LAND + "walker ann at 1 1 to 0 0 weight 1;").mornings("any ann; any ann;").yes(2, "live", 9999).then(1, "pole", 0, 1, 0).then(2, "pole", 0, 1, 1);
        e.on(LAND + "walker ann at 1 1 to 0 0 weight 1;").mornings("any ann; any ann; any ann; any ann;").yes(4, "live", 9999);
        e.then(0, "pole", 0, 1, 0).then(1, "pole", 0, 1, 1).then(1, "pole", 0, 0, 0).then(1, "pole", 0, 0, 1).then(4, "walker", 0, 7);
        // Each LIVED begins with its seed anew, and is told by itself.
        e.yes(4, "live", 9999).then(4, "lived", 2).then(4, "lived", 1).then(4, "live", 9999).then(4, "lived", 2).then(4, "lived", 1).then(0, "lived", 0);
        e.yes(4, "live", 9999);
        e.then(4, "live", 9999).then(0, "pole", 0, 1, 0).then(8, "walker", 0, 7);
    }

    private static void livedAsItIs() {
        Edge e = new Edge("Terms 4, LIVED: all is as it is then");
        e.on("marsh 2 by 1 skin 50 soft 8 deep 9; mends 1; walker ann at 0 0 to 1 0 weight 6 load 2; walker bo at 0 0 to 0 0 weight 2;");
        e.mornings("step ann 0 1 0; step ann 1 1 0; hand ann bo 2; stand 3;");
        // At 0 0: 50 less 8 and 2, then 2, then three times 4. At 1 0: 50 less 8, then three times 6.
        e.yes(4, "live", 0).then(3, "told", 6).then(5, "told", 4).then(2, "walker", 0, 7).then(2, "walker", 1, 3).then(0, "walker", 0, 3);
        e.then(26, "cell", 0, 0, 0).then(24, "cell", 1, 0, 0).then(4, "live", 0).then(10, "told", 4).then(4, "walker", 0, 7);
    }

    // ---- MARKS, FRACTIONS

    private static void marksMost() {
        Edge e = new Edge("Terms 4, MARKS, at most 3").on(TWO);
        e.no(6, "undo").yes(1, "mark").then(2, "mark").then(3, "mark").thenNo(4, "mark").thenNo(4, "mark").then(2, "undo").then(3, "mark").thenNo(4, "mark");
        e.then(2, "undo").then(1, "undo").then(0, "undo").thenNo(6, "undo").then(1, "mark");
        e.on(TWO).after("mark").after("stand", 1).after("mark").after("stand", 1).after("mark").after("stand", 1).no(4, "mark");
        e.yes(2, "undo").then(2, "told", 4).then(1, "undo").then(1, "told", 4).then(0, "undo").then(0, "told", 4).thenNo(6, "undo").then(0, "told", 4);
    }

    private static void marksKeep() {
        Edge e = new Edge("Terms 4, the MARSH with all that became of it, the MORNINGS are kept; all is taken back to the latest MARK, which is gone then");
        e.on(TWO).mornings("stand 1;").after("mark").mornings("stand 2; stand 2;").yes(2, "live", 0).then(0, "undo").then(1, "live", 0).then(1, "told", 4);
        // A mark of no MORNINGS takes them away again; one of a marsh of no CELLS takes that away.
        e.on(TWO).after("mark").mornings("stand 2;").yes(0, "undo").thenNo(6, "live", 0);
        e.onNew().after("mark").yes(2, "mark").thenFed(TWO).then(2, "marsh", TWO.length()).then(1, "undo").then(0, "told", 0).thenNo(1, "walker", 0, 0).then(0, "undo");
        // FALLEN, then up again.
        e.on("marsh 1 by 1 skin 0 soft 9 deep 9; walker ann at 0 0 to 0 0 weight 20 long 1;").after("mark").yes(1, "stand", 1).then(0, "undo").then(0, "told", 5);
        e.then(0, "pole", 0, 0, 2).then(1, "stand", 1).then(1, "mark").then(1, "rise", 0, 0, 0).then(0, "undo").then(1, "told", 5);
    }

    private static void fractions() {
        Edge e = new Edge("Terms 4, FRACTIONS .. without a common divisor, the bottom above 0; 0 is 0 by 1").onNew();
        e.tells(0, "top").tells(1, "bottom");
        for (int skin : new int[] {0, 1, 6, 99}) {
            e.on("marsh 1 by 1 skin " + skin + " soft 0 deep 0;").mornings("");
            for (int many : new int[] {1, 2, 3, 19, 20}) {
                e.yes(1, "mean", 0, many).tells(skin, "top").tells(1, "bottom");
            }
        }
        // Of seeds 0 to 3 only that of 2 leads to a cell: 15 of 18 are left then.
        e.on("marsh 2 by 1 skin 9 soft 0 deep 0; walker ann at 0 0 to 0 0 weight 3;").mornings("any ann;");
        long[][] means = {{0, 1, 18, 1}, {2, 1, 15, 1}, {0, 2, 18, 1}, {1, 2, 33, 2}, {0, 3, 17, 1}, {1, 3, 17, 1}, {0, 4, 69, 4}};
        for (long[] m : means) {
            e.yes(1, "mean", m[0], m[1]).tells(m[2], "top").tells(m[3], "bottom");
        }
    }
}
