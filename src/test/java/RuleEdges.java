/** Edges of promise 4: the text of a rule. */
final class RuleEdges {
    private static final int NONE = Edges.NONE;
    private static final String BOARD = "board 4 3;";
    private static final String BIG = "";
    /** 435 and 30 and 1 and 30 covers, and four more. */
    private static final String FIVE_HUNDRED = "any 2 or any 1 or any 0 or not any 1 or side 0 1 or side 0 2 or side 0 3 or side 0 4";
    private static final String ONE_MORE = FIVE_HUNDRED.concat(" or side 0 5");

    private RuleEdges() {
    }

    static void test() {
        firstBytes();
        partsGo();
        faultsLeaveAll();
        wrongCount();
        sides();
        corners();
        sets();
        fronts();
        fogs();
        nothingMore();
        cannotStand();
        wrongNumbers();
        sevenOpen();
        tooManyCovers();
        tooManyInAPart();
        leastOfOne();
        setsTogether();
        blanks();
    }

    private static void firstBytesAre(String text, int n, int answer, int place) {
        CoveredSigns x = new CoveredSigns();
        Texts.feed(x, text);
        Edges.due("the first " + n + " of " + text, x.rule(n), answer);
        Edges.due("fault of the first " + n + " of " + text, x.fault(), place);
        Edges.due("bytes left behind the first " + n + " of " + text, x.count(3), 0);
    }

    private static void firstBytes() {
        Edges.says(4, "Likewise the RULE (PARTS go): how many COVERS; or the FAULT less 10 (it stays).");
        firstBytesAre("any 2 or any 1 or xx", 5, 435, NONE);
        firstBytesAre("any 2 or any 1 or xx", 4, -9, 4);
        firstBytesAre("any 2 or any 1 or xx", 8, -9, 8);
        firstBytesAre("any 2 or any 1 or xx", 14, 465, NONE);
        firstBytesAre("any 2 or any 1 or xx", 15, 465, NONE);
        firstBytesAre("any 2 or any 1 or xx", 20, -9, 18);
        firstBytesAre("any 2 orx any 1 ", 8, -9, 8);
        firstBytesAre("any 12", 5, 30, NONE);
        firstBytesAre("any 12", 6, -8, 4);
        firstBytesAre("any 0", 0, -9, 0);
        firstBytesAre(" ".repeat(495).concat("any 1"), 500, 30, NONE);
        firstBytesAre(" ".repeat(495).concat("any 1"), 499, -9, 499);
        CoveredSigns x = new CoveredSigns();
        Edges.due("no bytes", x.rule(0), -9);
        Edges.due("the old rule", x.told(4), 1);
    }

    private static void partsGo() {
        Edges.says(4, "Likewise the RULE (PARTS go): how many COVERS");
        CoveredSigns x = Edges.rich("");
        Edges.due("covers", Texts.rule(x, "any 1"), 6);
        Edges.due("parts", x.count(0), 0);
        Edges.due("no row", x.forget(), 0);
        Edges.due("standing ones", x.count(1), 3);
        Edges.due("images", x.count(2), 2);
        Edges.due("d", x.told(5), 1);
        Edges.due("signs", x.told(0), 4);
        Edges.due("words", x.told(3), 3);
        Edges.due("an image has its parts", x.restore(), 1);
        Edges.due("as many", x.count(0), 1);
    }

    private static void faultsLeaveAll() {
        Edges.says(4, "or the FAULT less 10 (it stays)");
        Edges.takesTapeAlone("any 1 x", false, -9);
        Edges.takesTapeAlone("any 1 or any 4", false, -8);
        Edges.takesTapeAlone("not not not not not not not any 0", false, -7);
        Edges.takesTapeAlone("", false, -9);
        CoveredSigns x = Texts.with("board 4 4;sign;", "side 0 1 or side 0 2");
        x.part(1, 0);
        Edges.due("too many covers", Texts.rule(x, "any 3"), -6);
        Edges.due("the covers stay", x.told(4), 2);
        Edges.due("the last stays", x.cover(1), 3 | 3 << 4 | 3 << 8 | 3 << 12);
        Edges.due("the part stays", x.count(0), 1);
    }

    private static void wrongCount() {
        Edges.says(4, "Likewise the RULE");
        for (int n : Edges.beside(0, 0)) {
            Edges.leavesAll("rule(" + n + ") without bytes", () -> Edges.rich(""), x -> x.rule(n),
                    Edges.thrown(IllegalArgumentException.class));
        }
        for (int n : Edges.beside(0, 20)) {
            Edges.leavesAll("rule(" + n + ") of 20", Edges::rich, x -> x.rule(n),
                    Edges.thrown(IllegalArgumentException.class));
        }
        for (int n : Edges.beside(0, 500)) {
            Edges.leavesAll("rule(" + n + ") of 500", Edges::full, x -> x.rule(n),
                    Edges.thrown(IllegalArgumentException.class));
        }
    }

    private static void sides() {
        Edges.says(4, "\"side\" S N (S 0 left, 1 right: N columns, 1 to W; 2 above, 3 below: N rows, 1 to H)");
        int column = 1 | 1 << 4 | 1 << 8;
        Edges.coverIs(BOARD, "side 0 1", column);
        Edges.coverIs(BOARD, "side 0 3", column * 7);
        Edges.coverIs(BOARD, "side 0 4", 4095);
        Edges.coverIs(BOARD, "side 1 1", column * 8);
        Edges.coverIs(BOARD, "side 1 4", 4095);
        Edges.coverIs(BOARD, "side 2 1", 15);
        Edges.coverIs(BOARD, "side 2 3", 4095);
        Edges.coverIs(BOARD, "side 3 1", 15 << 8);
        Edges.coverIs(BOARD, "side 3 3", 4095);
        for (int side = 0; side < 4; side++) {
            Edges.ruleIs(BOARD, "side " + side + " 0", -8, 7);
            Edges.ruleIs(BOARD, "side " + side + (side < 2 ? " 5" : " 4"), -8, 7);
        }
        Edges.ruleIs(BOARD, "side 4 1", -8, 5);
        Edges.ruleIs(BIG, "side 0 7", -8, 7);
        Edges.ruleIs(BIG, "side 1 6", 1, NONE);
        Edges.ruleIs(BIG, "side 3 5", 1, NONE);
        Edges.ruleIs(BIG, "side 3 6", -8, 7);
        Edges.ruleIs("board 2 5;", "side 0 2", 1, NONE);
        Edges.ruleIs("board 2 5;", "side 0 3", -8, 7);
        Edges.ruleIs("board 2 5;", "side 2 5", 1, NONE);
        Edges.ruleIs("board 2 5;", "side 2 6", -8, 7);
    }

    private static void corners() {
        Edges.says(4, "\"corner\" S N (S 0 left above, 1 right above, 2 left below, 3 right below: N by N CELLS,"
                + " 1 to the lesser of W and H)");
        Edges.coverIs(BOARD, "corner 0 1", 1);
        Edges.coverIs(BOARD, "corner 1 1", 8);
        Edges.coverIs(BOARD, "corner 2 1", 1 << 8);
        Edges.coverIs(BOARD, "corner 3 1", 1 << 11);
        int three = 7 | 7 << 4 | 7 << 8;
        Edges.coverIs(BOARD, "corner 0 3", three);
        Edges.coverIs(BOARD, "corner 1 3", three << 1);
        Edges.coverIs(BOARD, "corner 2 3", three);
        Edges.coverIs(BOARD, "corner 3 3", three << 1);
        for (int corner = 0; corner < 4; corner++) {
            Edges.ruleIs(BOARD, "corner " + corner + " 0", -8, 9);
            Edges.ruleIs(BOARD, "corner " + corner + " 4", -8, 9);
        }
        Edges.ruleIs(BOARD, "corner 4 1", -8, 7);
        Edges.coverIs("board 2 5;", "corner 3 2", 15 << 6);
        Edges.ruleIs("board 2 5;", "corner 3 3", -8, 9);
        Edges.coverIs("board 5 2;", "corner 1 2", 24 | 24 << 5);
        Edges.ruleIs("board 5 2;", "corner 1 3", -8, 9);
        Edges.ruleIs(BIG, "corner 1 5", 1, NONE);
        Edges.ruleIs(BIG, "corner 1 6", -8, 9);
    }

    private static void sets() {
        Edges.says(4, "\"any\" N (each set of N CELLS, 0 to 3)");
        Edges.coverIs(BOARD, "any 0", 0);
        Edges.ruleIs(BOARD, "any 1", 12, NONE);
        Edges.ruleIs(BOARD, "any 2", 66, NONE);
        Edges.ruleIs(BOARD, "any 3", 220, NONE);
        Edges.ruleIs(BOARD, "any 4", -8, 4);
        Edges.ruleIs("board 2 2;", "any 3", 4, NONE);
        CoveredSigns x = Texts.with("board 2 2;", "any 3");
        int[] three = {7, 11, 13, 14};
        for (int cover = 0; cover < 4; cover++) {
            Edges.due("three of four, " + cover, x.cover(cover), three[cover]);
        }
    }

    private static void fronts() {
        Edges.says(4, "\"front\" X Y W H (CELLS from X, Y on, W across, H down, 1 to as far as the board goes)");
        Edges.coverIs(BOARD, "front 0 0 4 3", 4095);
        Edges.coverIs(BOARD, "front 0 0 1 1", 1);
        Edges.coverIs(BOARD, "front 3 2 1 1", 1 << 11);
        Edges.coverIs(BOARD, "front 1 1 3 2", 14 << 4 | 14 << 8);
        Edges.ruleIs(BOARD, "front 4 0 1 1", -8, 6);
        Edges.ruleIs(BOARD, "front 0 3 1 1", -8, 8);
        Edges.ruleIs(BOARD, "front 0 0 0 1", -8, 10);
        Edges.ruleIs(BOARD, "front 0 0 5 1", -8, 10);
        Edges.ruleIs(BOARD, "front 0 0 1 0", -8, 12);
        Edges.ruleIs(BOARD, "front 0 0 1 4", -8, 12);
        Edges.ruleIs(BOARD, "front 3 0 2 1", -8, 10);
        Edges.ruleIs(BOARD, "front 1 0 4 1", -8, 10);
        Edges.ruleIs(BOARD, "front 0 2 1 2", -8, 12);
        Edges.ruleIs(BOARD, "front 0 1 1 3", -8, 12);
    }

    private static void fogs() {
        Edges.says(4, "\"fog\" P (P 0: CELLS of which X and Y together are even; 1: odd)");
        Edges.coverIs(BOARD, "fog 0", 5 | 10 << 4 | 5 << 8);
        Edges.coverIs(BOARD, "fog 1", 10 | 5 << 4 | 10 << 8);
        Edges.ruleIs(BOARD, "fog 2", -8, 4);
        Edges.coverIs("board 3 2;", "fog 0", 5 | 2 << 3);
    }

    private static void nothingMore() {
        Edges.says(4, "A RULE of COVERS: C, at the end nothing more.");
        Edges.ruleIs(BOARD, "any 0", 1, NONE);
        Edges.ruleIs(BOARD, "any 0 x", -9, 6);
        Edges.ruleIs(BOARD, "any 0;", -9, 5);
        Edges.ruleIs(BOARD, "any 0 0", -9, 6);
        Edges.ruleIs(BOARD, "any 0 any 0", -9, 6);
        Edges.ruleIs(BOARD, "any 0 not any 0", -9, 6);
        Edges.ruleIs(BOARD, "[any 0]]", -9, 7);
        Edges.ruleIs(BOARD, "any 0 [", -9, 6);
    }

    private static void cannotStand() {
        Edges.says(4, "1 what can't stand there (at the length, if the text ends too early;");
        String[] cut = {"", "not", "[", "[any 0", "any", "side", "side 0", "corner", "corner 0", "front", "front 0",
            "front 0 0", "front 0 0 1", "fog", "any 0 or", "any 0 and", "any 0 or not", "[any 0] and ["};
        for (String text : cut) {
            Edges.ruleIs(BOARD, text, -9, text.length());
            Edges.ruleIs(BOARD, text + "  ", -9, text.length() + 2);
            Edges.ruleIs(BOARD, text + " *", -9, text.length() + 1);
        }
        Edges.ruleIs(BOARD, "or any 0", -9, 0);
        Edges.ruleIs(BOARD, "and any 0", -9, 0);
        Edges.ruleIs(BOARD, "any 0 or or any 0", -9, 9);
        Edges.ruleIs(BOARD, "any 0 and or any 0", -9, 10);
        Edges.ruleIs(BOARD, "not or", -9, 4);
        Edges.ruleIs(BOARD, "]", -9, 0);
        Edges.ruleIs(BOARD, "[]", -9, 1);
        Edges.ruleIs(BOARD, "[any 0;]", -9, 6);
        Edges.ruleIs(BOARD, "7", -9, 0);
        Edges.ruleIs(BOARD, "anyx 0", -9, 0);
        Edges.ruleIs(BOARD, "any x", -9, 4);
        Edges.ruleIs(BOARD, "notany 0", -9, 0);
        Edges.ruleIs(BOARD, "any 0 orany 0", -9, 6);
        Edges.ruleIs(BOARD, "any 0 andany 0", -9, 6);
    }

    private static void wrongNumbers() {
        Edges.says(4, "2 a number that is none such");
        Edges.ruleIs(BOARD, "any  4", -8, 5);
        Edges.ruleIs(BOARD, "any 0 or side 9 9", -8, 14);
        Edges.ruleIs(BOARD, "any 0 or side 3 9", -8, 16);
        Edges.ruleIs(BOARD, "side 9", -8, 5);
        Edges.ruleIs(BOARD, "any 4 x", -8, 4);
        for (String number : new String[] {"4294967296", "4294967297", "18446744073709551617", "1".repeat(300), "257", "65537"}) {
            Edges.ruleIs(BOARD, "any " + number, -8, 4);
            Edges.ruleIs(BOARD, "side 0 " + number, -8, 7);
            Edges.ruleIs(BOARD, "front 0 0 1 " + number, -8, 12);
        }
        Edges.ruleIs(BOARD, "any " + "0".repeat(300) + "1", 12, NONE);
    }

    private static void sevenOpen() {
        Edges.says(4, "or a 7th of [ and not that is open at one time (a not till its B ends)");
        Edges.ruleIs(BOARD, "[".repeat(5) + "any 0" + "]".repeat(5), 1, NONE);
        Edges.ruleIs(BOARD, "[".repeat(6) + "any 0" + "]".repeat(6), 1, NONE);
        Edges.ruleIs(BOARD, "[".repeat(7) + "any 0" + "]".repeat(7), -7, 6);
        Edges.ruleIs(BOARD, "not ".repeat(6) + "any 1", 12, NONE);
        Edges.ruleIs(BOARD, "not ".repeat(7) + "any 1", -7, 24);
        Edges.ruleIs(BOARD, "not[not[not[any 0]]]", 1, NONE);
        Edges.ruleIs(BOARD, "not[not[not[not any 0]]]", -7, 12);
        Edges.ruleIs(BOARD, "not[not[not[[any 0]]]]", -7, 12);
        Edges.ruleIs(BOARD, "[".repeat(6) + "not any 0", -7, 6);
        Edges.ruleIs(BOARD, "[".repeat(7), -7, 6);
        String five = "[".repeat(5);
        Edges.ruleIs(BOARD, five + "[any 0] or [any 1] or not any 0 or not any 1" + "]".repeat(5), 26, NONE);
        Edges.ruleIs(BOARD, five + "[any 0] or not [any 0]" + "]".repeat(5), -7, 20);
        Edges.ruleIs(BOARD, five + "not any 0 or not any 0 or not not any 0" + "]".repeat(5), -7, 35);
        Edges.ruleIs(BOARD, "not any 0 and ".repeat(8) + "[any 0]", 1, NONE);
        Edges.ruleIs(BOARD, "not not not any 0 and not not not not not not any 0", 1, NONE);
        Edges.ruleIs(BOARD, "not not not any 0 and not not not not not not not any 0", -7, 46);
        Edges.ruleIs(BOARD, "[any 0] or ".repeat(20) + "[[[[[[any 1]]]]]]", 13, NONE);
        // each bracket is the last of an and that is the last of an or: as deep as a rule can be
        StringBuilder deep = new StringBuilder();
        for (int open = 0; open < 6; open++) {
            deep.append("front ").append(open % 4).append(' ').append(open / 4).append(" 1 1 or any 0 and [");
        }
        deep.append("front 2 1 1 1 or any 0 and front 3 1 1 1").append("]".repeat(6));
        Edges.ruleIs(BOARD, deep.toString(), 8, NONE);
        CoveredSigns x = Texts.with(BOARD, deep.toString());
        for (int cell = 0; cell < 8; cell++) {
            Edges.due("cover " + cell + " of " + deep, x.cover(cell), 1 << cell);
        }
        Edges.ruleIs(BOARD, "[".repeat(6) + "x", -9, 6);
    }

    private static void tooManyCovers() {
        Edges.says(4, "of a RULE: at its end (the length), if it, or some part of it (of a not, and, or; unlike ones),"
                + " has more than 500 COVERS");
        Edges.ruleIs(BIG, FIVE_HUNDRED, 500, NONE);
        Edges.ruleIs(BIG, ONE_MORE, -6, ONE_MORE.length());
        Edges.ruleIs(BIG, ONE_MORE + "   ", -6, ONE_MORE.length() + 3);
        Edges.ruleIs(BIG, "   " + ONE_MORE, -6, ONE_MORE.length() + 3);
        Edges.ruleIs(BIG, "[" + ONE_MORE + "]", -6, ONE_MORE.length() + 2);
        Edges.ruleIs(BIG, FIVE_HUNDRED + " or side 0 4", 500, NONE);
        Edges.ruleIs(BIG, "any 2 or any 2", 435, NONE);
        Edges.ruleIs(BIG, "any 1 and any 1", 465, NONE);
        Edges.ruleIs(BIG, "any 1 and any 1 or any 0 or not [any 1 or any 0]", 497, NONE);
        Edges.ruleIs(BIG, "any 3", -6, 5);
        Edges.ruleIs("board 5 3;", "any 3", 455, NONE);
        Edges.ruleIs("board 3 5;", "any 3", 455, NONE);
        Edges.ruleIs("board 4 4;", "any 3", -6, 5);
        CoveredSigns x = Texts.with("board 4 4;", "");
        Edges.due("too many", Texts.rule(x, "any 3"), -6);
        Edges.due("as many as may be after that", Texts.rule(x, "any 2"), 120);
        Edges.due("fault", x.fault(), NONE);
        Edges.due("too many again", Texts.rule(x, "not any 3"), -6);
        Edges.due("the old ones stay", x.told(4), 120);
    }

    private static void tooManyInAPart() {
        Edges.says(4, "or some part of it (of a not, and, or; unlike ones), has more than 500 COVERS");
        Edges.ruleIs(BIG, "[" + FIVE_HUNDRED + "] and side 0 6", 1, NONE);
        Edges.ruleIs(BIG, "[" + ONE_MORE + "] and side 0 6", -6, ONE_MORE.length() + 15);
        Edges.ruleIs(BIG, "side 0 6 and [" + FIVE_HUNDRED + "]", 1, NONE);
        Edges.ruleIs(BIG, "side 0 6 and [" + ONE_MORE + "]", -6, ONE_MORE.length() + 15);
        Edges.ruleIs(BIG, "not [" + FIVE_HUNDRED + "] and side 0 6", 1, NONE);
        Edges.ruleIs(BIG, "not [" + ONE_MORE + "] and side 0 6", -6, ONE_MORE.length() + 19);
        Edges.ruleIs("board 4 4;", "any 3 and side 0 4", -6, 18);
        Edges.ruleIs("board 4 4;", "any 3 and side 0 4 and any 0", -6, 28);
        Edges.ruleIs("board 4 4;", "[any 3 or any 0] and side 0 4 and any 1", -6, 39);
        Edges.ruleIs("board 4 4;", "not any 3 and side 0 4", -6, 22);
        Edges.ruleIs("board 5 3;", "not any 3 and side 0 5", 1, NONE);
        Edges.ruleIs(BIG, "[any 2 and any 1] and side 0 6", -6, 30);
        Edges.ruleIs(BIG, "[any 1 and any 1] and side 0 6", 1, NONE);
    }

    private static void leastOfOne() {
        Edges.says(4, "of one the least");
        Edges.ruleIs("board 4 4;", "any 3 or", -9, 8);
        Edges.ruleIs("board 4 4;", "[any 3", -9, 6);
        Edges.ruleIs("board 4 4;", "any 3 x", -9, 6);
        Edges.ruleIs("board 4 4;", "any 3 or any 4", -8, 13);
        Edges.ruleIs("board 4 4;", "any 3 or " + "[".repeat(7), -7, 15);
        Edges.ruleIs("board 4 4;", "any 3 or any 2", -6, 14);
    }

    private static void setsTogether() {
        Edges.says(4, "or: those of one or the other; and: each of the one together with each of the other;"
                + " not: of each what it does not hide.");
        Edges.coverIs(BOARD, "not any 0", 4095);
        Edges.coverIs(BOARD, "not side 0 4", 0);
        Edges.coverIs(BOARD, "any 0 and any 0", 0);
        Edges.coverIs(BOARD, "any 0 or any 0", 0);
        Edges.ruleIs(BOARD, "any 0 or not any 0", 2, NONE);
        Edges.coverIs("board 2 2;", "not corner 0 1", 14);
        Edges.coverIs("board 2 2;", "not corner 0 1 and corner 1 1", 14);
        Edges.coverIs("board 2 2;", "corner 3 1 and corner 1 1 and corner 0 1", 11);
        Edges.ruleIs("board 2 2;", "corner 3 1 or corner 1 1 and corner 0 1", 2, NONE);
        Edges.ruleIs("board 2 2;", "corner 3 1 and corner 1 1 or corner 0 1", 2, NONE);
        Edges.coverIs("board 6 5;", "not any 0", (1 << 30) - 1);
    }

    private static void blanks() {
        Edges.says(4, "blanks (32) may stand ahead of all these, and at the end.");
        Edges.ruleIs(BOARD, "  not  [  any  1  ]  and  any  0  ", 12, NONE);
        Edges.ruleIs(BOARD, "not[any1]and any0 or fog1", 13, NONE);
        Edges.ruleIs(BOARD, "any\t1", -9, 3);
        Edges.ruleIs(BOARD, "any 1\n", -9, 5);
        Edges.ruleIs(BOARD, "any 1\u0000", -9, 5);
        Edges.ruleIs(BOARD, "any 1\u00a0", -9, 5);
    }
}
