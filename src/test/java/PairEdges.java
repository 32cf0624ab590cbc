/** Edges of promises 10 to 14 and 26 to 30: covers, who is confused, cells changed, the most signs. */
final class PairEdges {
    private static final int NONE = Edges.NONE;
    private static final String TWELVE = "sign;".repeat(12);
    private static final String FIVE_HUNDRED = "any 2 or any 1 or any 0 or not any 1 or side 0 1 or side 0 2 or side 0 3 or side 0 4";
    /** By the rule fog 1, with d 2, thirty-one steps lead on; an end of its ninth sign is left open for more strokes. */
    private static final String LONG_WAY = "board 4 5;sign;sign;down 3 1 4;down 3 1 3;sign;across 2 4 1;across 3 1 1;"
            + "sign;down 1 2 3;across 0 3 3;%ssign;down 0 2 3;down 0 3 1;down 2 4 1;across 0 2 2;sign;down 0 2 1;down 3 1 1;"
            + "sign;across 2 4 2;across 2 0 1;down 2 3 1;sign;down 2 2 1;sign;down 0 2 3;across 3 4 1;down 1 4 1;%s"
            + "sign;down 2 2 3;down 1 4 1;across 0 2 1;across 3 4 1;sign;down 2 3 2;down 3 3 1;sign;across 1 4 1;";

    private PairEdges() {
    }

    static void test() {
        cover();
        dirt();
        confused();
        confusedWithDirt();
        confusions();
        blind();
        changed();
        changedFirst();
        bound();
        steps();
        thirtySteps();
        most();
        taken();
        askedAnew();
    }

    /** Every method that wants a cover. */
    private static void noSuchCover(CoveredSigns x, int cover) {
        Edges.noIndex("cover " + cover, () -> x.cover(cover));
        for (int paint : new int[] {0, -1, 1 << 30}) {
            Edges.noIndex("may " + cover + " " + paint, () -> x.may(cover, paint));
            Edges.noIndex("read " + cover + " " + paint, () -> x.read(cover, paint));
            Edges.noIndex("nearest " + cover + " " + paint, () -> x.nearest(cover, paint));
            Edges.noIndex("part " + cover + " " + paint, () -> x.part(cover, paint));
        }
    }

    private static void cover() {
        Edges.says(10, "CELLS that a COVER hides. IndexOutOfBoundsException: no such COVER (so below).");
        CoveredSigns one = new CoveredSigns();
        for (int cover : Edges.beside(0, 0)) {
            noSuchCover(one, cover);
        }
        Edges.due("the only one", one.cover(0), 0);
        CoveredSigns many = Texts.with("sign;", FIVE_HUNDRED);
        for (int cover : Edges.beside(0, 499)) {
            noSuchCover(many, cover);
        }
        Edges.due("the first", many.cover(0), 0);
        Edges.due("cover 1", many.cover(1), 1);
        Edges.due("the last", many.cover(499), (1 << 30) - 1 - 1);
        Edges.due("the last but one", many.cover(498), (1 << 30) - 1 - 2);
        Edges.due("may behind the last", many.may(499, 1 << 29), 1);
        Edges.due("part behind the last", many.part(499, 0), 1);
        Edges.due("fewer", Texts.rule(many, "any 1"), 30);
        noSuchCover(many, 30);
        Edges.due("the last of fewer", many.cover(29), 1 << 29);
        Edges.says(10, "COVERS are numbered by how many CELLS they hide, of like ones by bits.");
        CoveredSigns x = Texts.with("board 2 2;", "any 0 or any 1 or any 2 or any 3 or not any 0");
        int[] cells = {0, 1, 2, 4, 8, 3, 5, 6, 9, 10, 12, 7, 11, 13, 14, 15};
        for (int cover = 0; cover < 16; cover++) {
            Edges.due("cover " + cover, x.cover(cover), cells[cover]);
        }
        noSuchCover(x, 16);
    }

    private static void dirt() {
        Edges.says(11, "d is told (0 to 3): what it was.");
        CoveredSigns x = new CoveredSigns();
        int[] told = {0, 1, 2, 3, 3, 0};
        int was = 0;
        for (int d : told) {
            Edges.due("dirt " + d, x.dirt(d), was);
            was = d;
            for (int wrong : Edges.beside(0, 3)) {
                Edges.illegal("dirt " + wrong, () -> x.dirt(wrong));
                Edges.due("d stays", x.told(5), d);
            }
        }
    }

    private static void confused() {
        Edges.says(12, "The first COVER by which two SIGNS are CONFUSED; NONE. IllegalArgumentException: they are one.");
        String most = "across 1 0 5;across 0 1 6;across 0 2 6;across 0 3 6;across 0 4 6;";
        CoveredSigns x = Texts.with("sign;sign;" + most + "sign;across 0 0 1;sign;across 0 0 1;" + most, FIVE_HUNDRED);
        Edges.due("by the last alone", x.confused(1, 0), 499);
        Edges.due("by the second", x.confused(0, 2), 1);
        Edges.due("the other way", x.confused(2, 0), 1);
        Edges.due("all thirty cells", x.confused(0, 3), NONE);
        Edges.due("all thirty cells, the other way", x.confused(2, 1), NONE);
        Edges.illegal("0 with itself", () -> x.confused(0, 0));
        Edges.illegal("3 with itself", () -> x.confused(3, 3));
        Edges.due("by all covers", Texts.with("sign;sign;", "any 1 or not any 1").confused(0, 1), 0);
    }

    private static void confusedWithDirt() {
        Edges.says(12, "if as many as 2 d CELLS, or fewer, that are seen are unlike in both");
        for (int d = 0; d < 4; d++) {
            String cells = 2 * d > 0 ? "across 0 0 " + 2 * d + ";" : "";
            CoveredSigns x = Texts.with("sign;sign;" + cells + "sign;" + cells + "across 0 1 1;sign;" + cells + "across 0 2 1;", "side 3 2");
            x.dirt(d);
            Edges.due(2 * d + " cells", x.confused(0, 1), 0);
            Edges.due(2 * d + 1 + " cells", x.confused(0, 2), NONE);
            Edges.due("one more, seen", x.confused(0, 3), NONE);
            Texts.rule(x, "side 3 3");
            Edges.due("one more, hidden", x.confused(0, 3), 0);
            Edges.due("all pairs", x.confusions(), d > 0 ? 5 : 3);
            x.dirt(Math.max(0, d - 1));
            Edges.due("with less dirt", x.confused(0, 1), d > 0 ? NONE : 0);
        }
    }

    private static void confusions() {
        Edges.says(13, "How many pairs of SIGNS are CONFUSED by some COVER.");
        Edges.due("no sign", new CoveredSigns().confusions(), 0);
        Edges.due("one sign", Texts.with("sign;", "side 0 6").confusions(), 0);
        Edges.due("two like ones", Texts.with("sign;sign;", "").confusions(), 1);
        Edges.due("two unlike ones", Texts.with("sign;sign;across 5 4 1;", "").confusions(), 0);
        Edges.due("twelve", Texts.with(TWELVE, "").confusions(), 66);
        Edges.due("by the last cover", Texts.with("sign;sign;across 5 4 1;", "any 1").confusions(), 1);
    }

    private static void blindIs(CoveredSigns x, int cover, int pairs) {
        Edges.due("blind", x.blind(0), cover);
        Edges.due("pairs", x.blind(1), pairs);
    }

    private static void blind() {
        Edges.says(14, "BLIND (what 0; of none CONFUSED the first COVER), how many pairs (1).");
        blindIs(new CoveredSigns(), 0, 0);
        blindIs(Texts.with("sign;", "any 1"), 0, 0);
        blindIs(Texts.with("sign;sign;across 0 0 2;", "any 1"), 0, 0);
        blindIs(Texts.with("sign;sign;across 5 4 1;", "any 1"), 29, 1);
        blindIs(Texts.with(TWELVE, FIVE_HUNDRED), 0, 66);
        Edges.says(14, "BLIND: the COVER by which most pairs are CONFUSED, of these the first.");
        String three = "board 2 2;sign;sign;across 0 0 1;sign;across 1 0 1;";
        blindIs(Texts.with(three, "any 1"), 0, 1);
        blindIs(Texts.with(three, "any 0 or any 1"), 1, 1);
        blindIs(Texts.with(three, "any 0 or any 1 or side 2 1 or side 2 2"), 5, 3);
        CoveredSigns dirty = Texts.with("board 3 2;sign;sign;across 0 0 2;sign;across 0 0 3;across 0 1 2;", "any 0 or corner 3 1 or side 0 1");
        int[] by = {0, 2, 2, 0};
        int[] pairs = {0, 2, 3, 3};
        for (int d = 0; d < 4; d++) {
            dirty.dirt(d);
            blindIs(dirty, by[d], pairs[d]);
        }
        CoveredSigns x = Texts.with(three, "");
        for (int what : Edges.beside(0, 1)) {
            Edges.illegal("what " + what, () -> x.blind(what));
        }
    }

    private static void changedIs(CoveredSigns x, int count, int first, int second) {
        Edges.due("changed, how many", x.changed(0), count);
        Edges.due("changed, first", x.changed(1), first);
        Edges.due("changed, second", x.changed(2), second);
    }

    private static void changed() {
        Edges.says(26, "CHANGED: 0 how many, 1 the first (100 times the SIGN, and the CELL), 2 the second;"
                + " NONE: not so many, or not by 2 (each what).");
        changedIs(new CoveredSigns(), 0, NONE, NONE);
        changedIs(Texts.with("sign;", "side 0 6"), 0, NONE, NONE);
        changedIs(Texts.with("sign;sign;across 5 4 1;", ""), 0, NONE, NONE);
        changedIs(Texts.with("sign;sign;", ""), 1, 0, NONE);
        changedIs(Texts.with("sign;sign;sign;", ""), 2, 0, 101);
        changedIs(Texts.with("sign;sign;sign;sign;", ""), NONE, NONE, NONE);
        changedIs(Texts.with("sign;sign;", "side 0 6"), NONE, NONE, NONE);
        CoveredSigns x = Texts.with("sign;sign;", "");
        x.dirt(1);
        changedIs(x, NONE, NONE, NONE);
        CoveredSigns near = Texts.with("sign;sign;across 4 4 2;", "");
        near.dirt(1);
        changedIs(near, 1, 0, NONE);
        CoveredSigns two = Texts.with("sign;sign;across 5 4 1;", "");
        two.dirt(1);
        changedIs(two, 2, 0, 1);
        for (int what : Edges.beside(0, 2)) {
            Edges.illegal("what " + what, () -> x.changed(what));
            Edges.illegal("what " + what + " of a clear one", () -> new CoveredSigns().changed(what));
        }
    }

    private static void changedFirst() {
        Edges.says(26, "the first such, by SIGN, then CELL (of two: the first one, then the second)");
        changedIs(Texts.with("sign;sign;", "not corner 3 1"), 1, 29, NONE);
        changedIs(Texts.with("sign;sign;", "not corner 0 1"), 1, 0, NONE);
        changedIs(Texts.with("sign;sign;", "not front 4 4 2 1 or any 1"), 2, 0, 28);
        changedIs(Texts.with("sign;sign;", "not front 4 4 1 1 or not corner 3 1"), 2, 28, 29);
        changedIs(Texts.with("sign;across 5 4 1;sign;", "not corner 3 1 or not corner 2 1"), 1, 24, NONE);
        String twelve = "board 4 3;sign;down 0 1 2;down 2 0 3;sign;down 3 0 1;across 2 2 2;sign;across 0 0 3;"
                + "sign;across 3 0 1;sign;across 2 2 1;sign;down 2 0 1;across 0 1 2;sign;down 3 2 1;"
                + "sign;across 2 2 2;across 1 1 3;sign;down 1 1 2;sign;across 1 2 3;down 3 0 3;sign;across 0 0 2;down 2 0 3;sign;";
        changedIs(Texts.with(twelve, "fog 0 or any 0 or front 3 2 1 1"), 1, 1106, NONE);
        String last = "board 4 3;sign;down 1 0 2;sign;sign;across 2 0 1;sign;across 1 2 1;sign;across 1 1 2;across 2 0 2;"
                + "sign;down 2 0 2;sign;down 3 2 1;across 2 1 1;sign;down 0 2 1;sign;down 0 0 2;sign;down 3 0 2;sign;down 1 1 2;sign;";
        changedIs(Texts.with(last, "front 0 0 4 1 or front 2 2 1 1"), 2, 110, 1111);
    }

    private static void bound() {
        Edges.says(27, "BOUND: the most pairs of SIGNS that are CONFUSED (by some COVER), no SIGN in two of them.");
        int[] pairs = {0, 0, 1, 1, 2, 2, 3, 3, 4, 4, 5, 5, 6};
        for (int signs = 0; signs <= 12; signs++) {
            Edges.due(signs + " like signs", Texts.with("sign;".repeat(signs), "").bound(), pairs[signs]);
        }
        Edges.due("clear", Texts.with("sign;sign;across 0 0 1;", "").bound(), 0);
        Edges.due("by the last cover", Texts.with("sign;sign;across 5 4 1;", "any 1").bound(), 1);
        // by any 1 like paints and neighbours are confused: 0 with 2, 1 with 3
        Edges.due("two apart", Texts.with("board 3 2;sign;sign;across 0 1 3;sign;across 0 0 1;sign;across 0 1 2;", "any 1").bound(), 2);
        // 0 with 3, 3 with 4, 1 with 2
        Edges.due("two, not three", Texts.with("board 3 2;sign;sign;across 0 1 3;sign;across 0 1 2;sign;across 0 0 1;sign;across 0 0 2;",
                "any 1").bound(), 2);
        // a ring of three with a tail at each
        Edges.due("three of six", Texts.with("board 5 2;sign;sign;across 0 0 1;sign;across 1 0 1;sign;across 4 1 1;sign;across 0 0 1;across 3 1 1;"
                + "sign;across 1 0 1;across 2 1 1;", "any 1 or front 0 0 2 1").bound(), 3);
    }

    private static void stepsAre(String text, String rule, int d, int cells, int pairs) {
        CoveredSigns x = Texts.with(text, rule);
        x.dirt(d);
        Edges.due("steps", x.steps(0), cells);
        Edges.due("pairs behind the steps", x.steps(1), pairs);
        for (int what : Edges.beside(0, 1)) {
            Edges.illegal("what " + what, () -> x.steps(what));
        }
    }

    private static void steps() {
        Edges.says(28, "STEP BY STEP: 0 how many CELLS, 1 how many pairs are CONFUSED then.");
        stepsAre("", "", 0, 0, 0);
        stepsAre("sign;", "side 0 6", 3, 0, 0);
        stepsAre("sign;sign;across 5 4 1;", "", 0, 0, 0);
        stepsAre("sign;sign;", "", 0, 1, 0);
        stepsAre("sign;sign;", "not corner 3 1", 0, 1, 0);
        stepsAre(TWELVE, "", 0, 11, 0);
        Edges.says(28, "if that is not fewer than before, or behind 30, it ends");
        stepsAre("sign;sign;", "any 1", 0, 0, 1);
        stepsAre("sign;sign;", "side 0 6", 0, 0, 1);
        stepsAre("sign;sign;across 0 0 1;", "any 1", 0, 1, 0);
        stepsAre(TWELVE, "not corner 3 1", 0, 6, 30);
    }

    private static void thirtySteps() {
        Edges.says(28, "or behind 30, it ends");
        String ninth = "across 0 0 1;";
        String fourth = "across 2 0 1;";
        // thirty-one would leave 7; with the first step, or the first two, made in the text, the way ends by itself
        stepsAre(String.format(LONG_WAY, "", ""), "fog 1", 2, 30, 8);
        stepsAre(String.format(LONG_WAY, "", ninth), "fog 1", 2, 30, 7);
        stepsAre(String.format(LONG_WAY, fourth, ninth), "fog 1", 2, 29, 7);
    }

    private static void most() {
        Edges.says(29, "MOST; NONE: the board has more than 6 CELLS.");
        Edges.due("4 cells", Texts.with("board 2 2;", "").most(), 16);
        Edges.due("6 cells", Texts.with("board 3 2;", "").most(), 64);
        Edges.due("6 cells", Texts.with("board 2 3;", "").most(), 64);
        Edges.due("8 cells", Texts.with("board 4 2;", "").most(), NONE);
        Edges.due("8 cells", Texts.with("board 2 4;", "side 0 2").most(), NONE);
        Edges.due("9 cells", Texts.with("board 3 3;", "side 0 3").most(), NONE);
        Edges.due("all hidden", Texts.with("board 2 2;", "side 0 2").most(), 1);
        int[] most = {64, 8, 2, 1};
        for (int d = 0; d < 4; d++) {
            CoveredSigns x = Texts.with("board 2 3;", "");
            x.dirt(d);
            Edges.due("d " + d, x.most(), most[d]);
        }
        Edges.due("but one cell hidden", Texts.with("board 2 3;", "not corner 3 1").most(), 2);
        Edges.due("any PAINT, whatever signs there are", Texts.with("board 2 2;" + TWELVE, "").most(), 16);
    }

    /** Whatever was asked before: answers are those of a new object that was told the same. */
    private static void askedAnew() {
        String first = "board 3 2;sign;sign;across 0 0 1;sign;across 0 0 2;sign;across 0 0 3;across 0 1 1;";
        String second = "board 2 3;sign;across 0 0 2;sign;sign;across 0 0 2;";
        String many = "any 0 or any 1 or any 2 or side 0 1";
        for (int question = 0; question < 8; question++) {
            Edges.says(14, "BLIND (what 0; of none CONFUSED the first COVER), how many pairs (1).");
            CoveredSigns x = Texts.with(first, many);
            asked(x, question, first, many, 0);
            Edges.says(11, "d is told (0 to 3): what it was.");
            x.image();
            x.dirt(1);
            asked(x, question, first, many, 1);
            Edges.says(39, "All is as in the latest IMAGE, which is gone");
            x.restore();
            asked(x, question, first, many, 0);
            Edges.says(4, "how many COVERS; or the FAULT less 10 (it stays)");
            Texts.rule(x, "any 0 x");
            asked(x, question, first, many, 0);
            Texts.rule(x, "any 0");
            asked(x, question, first, "any 0", 0);
            Texts.rule(x, "side 0 3");
            asked(x, question, first, "side 0 3", 0);
            Texts.rule(x, many);
            x.dirt(1);
            Edges.says(3, "(RULE: any 0, d 0, no PARTS, STANDING ones, IMAGES): how many SIGNS");
            asked(x, question, first, many, 1);
            Texts.alphabet(x, second);
            asked(x, question, second, "any 0", 0);
        }
    }

    private static void asked(CoveredSigns x, int question, String alphabet, String rule, int d) {
        CoveredSigns fresh = Texts.with(alphabet, rule);
        fresh.dirt(d);
        Edges.same("answers", Edges.answers(x, question), Edges.answers(fresh, 0));
    }

    private static void taken() {
        Edges.says(30, "ROW BY ROW; NONE: more than 12 CELLS.");
        Edges.due("4 cells", Texts.with("board 2 2;", "").taken(), 16);
        Edges.due("10 cells", Texts.with("board 5 2;", "").taken(), 1024);
        Edges.due("12 cells", Texts.with("board 6 2;", "").taken(), 4096);
        Edges.due("12 cells", Texts.with("board 4 3;", "side 0 1").taken(), 512);
        Edges.due("12 cells", Texts.with("board 3 4;", "not corner 3 1").taken(), 2);
        Edges.due("15 cells", Texts.with("board 5 3;", "side 0 5").taken(), NONE);
        Edges.due("15 cells", Texts.with("board 3 5;", "").taken(), NONE);
        Edges.due("16 cells", Texts.with("board 4 4;", "side 0 4").taken(), NONE);
        Edges.due("all hidden", Texts.with("board 3 4;", "side 0 3").taken(), 1);
        // with d 3 seven cells must be unlike: no more than four signs can be so on twelve cells
        int[] taken = {4096, 256, 16, 4};
        for (int d = 0; d < 4; d++) {
            CoveredSigns x = Texts.with("board 4 3;", "");
            x.dirt(d);
            Edges.due("d " + d, x.taken(), taken[d]);
        }
    }
}
