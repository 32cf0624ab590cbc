/** Edges of promises 6 to 9 and 22 to 25: what signs, words and families are. */
final class SignEdges {
    private static final int NONE = Edges.NONE;
    private static final String TWELVE = "sign;".repeat(12);

    private SignEdges() {
    }

    static void test() {
        told();
        sign();
        family();
        word();
        least();
        leastOfSix();
        leastWithDirt();
        strokes();
        akin();
        akinWrong();
        strangers();
    }

    private static void told() {
        Edges.says(6, "0 SIGNS, 1 W, 2 H, 3 WORDS, 4 COVERS, 5 d. IllegalArgumentException: another what (so below).");
        CoveredSigns x = Texts.with("board 2 5;" + TWELVE + "word l;", "any 1");
        x.dirt(3);
        int[] told = {12, 2, 5, 1, 10, 3};
        for (int what = 0; what < 6; what++) {
            Edges.due("told " + what, x.told(what), told[what]);
        }
        for (int what : Edges.beside(0, 5)) {
            Edges.illegal("told " + what, () -> x.told(what));
        }
    }

    /** Every method that wants a sign. */
    private static void noSuchSign(CoveredSigns x, int sign) {
        Edges.noElement("sign " + sign, () -> x.sign(sign));
        Edges.noElement("family " + sign, () -> x.family(sign));
        Edges.noElement("least " + sign, () -> x.least(sign, 0));
        Edges.noElement("least, what 2, of " + sign, () -> x.least(sign, 2));
        Edges.noElement("strokes " + sign, () -> x.strokes(sign));
        Edges.noElement("confused with 0: " + sign, () -> x.confused(sign, 0));
        Edges.noElement("0 confused with " + sign, () -> x.confused(0, sign));
        Edges.noElement("confused with itself: " + sign, () -> x.confused(sign, sign));
        Edges.noElement("stand " + sign, () -> x.stand(sign, 0, 1));
        Edges.noElement("stand nowhere " + sign, () -> x.stand(sign, -1, 0));
    }

    private static void sign() {
        Edges.says(7, "PAINT of a SIGN. NoSuchElementException: no such SIGN (so below).");
        CoveredSigns none = new CoveredSigns();
        CoveredSigns one = Texts.with("sign;across 5 4 1;", "");
        CoveredSigns twelve = Texts.with(TWELVE + "across 0 0 1;", "");
        for (int sign : Edges.beside(0, 0)) {
            noSuchSign(none, sign);
            noSuchSign(one, sign);
        }
        noSuchSign(none, 0);
        for (int sign : Edges.beside(0, 11)) {
            noSuchSign(twelve, sign);
        }
        Edges.due("the only one", one.sign(0), 1 << 29);
        Edges.due("the first of twelve", twelve.sign(0), 0);
        Edges.due("the last of twelve", twelve.sign(11), 1);
        Edges.due("its strokes", twelve.strokes(11), 1);
        Edges.due("its least part", twelve.least(11, 0), 1);
        Edges.due("0 and 11", twelve.confused(0, 11), NONE);
        Edges.due("11 and 10", twelve.confused(11, 10), NONE);
        Edges.due("10 and 0", twelve.confused(10, 0), 0);
        Edges.due("11 stands", twelve.stand(11, 0, 1), 1);
        Edges.due("fewer signs", Texts.alphabet(twelve, "sign;"), 1);
        noSuchSign(twelve, 1);
        noSuchSign(twelve, 11);
    }

    private static void family() {
        Edges.says(8, "FAMILY of a SIGN; NONE.");
        CoveredSigns x = Texts.with(TWELVE + "family 0 0;family 3 11;", "");
        Edges.due("0 is one", x.family(0), 0);
        Edges.due("none", x.family(1), NONE);
        Edges.due("none", x.family(10), NONE);
        Edges.due("3 of the last", x.family(11), 3);
        Texts.alphabet(x, "sign;");
        Edges.due("of the old ones none", x.family(0), NONE);
    }

    private static void word() {
        Edges.says(9, "A letter (SIGN) of a WORD; NONE behind its end. IndexOutOfBoundsException: no such WORD."
                + " IllegalArgumentException: the place (0 to 5).");
        CoveredSigns none = Texts.with("sign;", "");
        Edges.noIndex("word 0 of none", () -> none.word(0, 0));
        CoveredSigns one = Texts.with("sign;word a;", "");
        for (int word : Edges.beside(0, 0)) {
            Edges.noIndex("word " + word + " of one", () -> one.word(word, 0));
            Edges.noIndex("word " + word + " of one, place 6", () -> one.word(word, 6));
        }
        CoveredSigns eight = Texts.with("sign;sign;" + "word bb;".repeat(7) + "word aaaaab;", "");
        for (int word : Edges.beside(0, 7)) {
            Edges.noIndex("word " + word + " of eight", () -> eight.word(word, 5));
        }
        for (int place : Edges.beside(0, 5)) {
            Edges.illegal("place " + place, () -> eight.word(7, place));
            Edges.illegal("place " + place, () -> one.word(0, place));
        }
        Edges.due("first letter", one.word(0, 0), 0);
        for (int place = 1; place < 6; place++) {
            Edges.due("behind the end, " + place, one.word(0, place), NONE);
        }
        Edges.due("last letter of six", eight.word(7, 5), 1);
        Edges.due("the one ahead of it", eight.word(7, 4), 0);
        Edges.due("last letter of two", eight.word(6, 1), 1);
        Edges.due("behind two", eight.word(6, 2), NONE);
    }

    private static void leastIs(CoveredSigns x, int sign, int count, int bits) {
        Edges.due("least part of " + sign + ", how many", x.least(sign, 0), count);
        Edges.due("least part of " + sign + ", bits", x.least(sign, 1), bits);
    }

    private static void least() {
        Edges.says(22, "LEAST PART: 0 how many CELLS, 1 the bits; NONE: not by 6.");
        CoveredSigns x = Texts.with("sign;sign;across 5 4 1;sign;across 5 4 1;", "");
        leastIs(x, 0, 1, 1 << 29);
        leastIs(x, 1, NONE, NONE);
        for (int what : Edges.beside(0, 1)) {
            Edges.illegal("what " + what, () -> x.least(0, what));
        }
        CoveredSigns alone = Texts.with("sign;across 0 0 6;", "any 0 or side 0 6");
        for (int d = 0; d < 4; d++) {
            alone.dirt(d);
            leastIs(alone, 0, 0, 0);
        }
        CoveredSigns two = Texts.with("sign;sign;across 1 0 5;", "side 0 6");
        leastIs(two, 1, 1, 2);
    }

    /** A sign without paint, and others with one cell each, all of them unlike. */
    private static CoveredSigns cellEach(int others) {
        StringBuilder b = new StringBuilder("board 4 2;sign;");
        for (int cell = 0; cell < others; cell++) {
            b.append("sign;across ").append(cell % 4).append(' ').append(cell / 4).append(" 1;");
        }
        return Texts.with(b.toString(), "");
    }

    private static void leastOfSix() {
        Edges.says(22, "the fewest CELLS (6 at most) by which, if these alone are seen, it is not CONFUSED with any other one");
        leastIs(cellEach(5), 0, 5, 31);
        leastIs(cellEach(6), 0, 6, 63);
        leastIs(cellEach(7), 0, NONE, NONE);
        leastIs(cellEach(7), 7, 1, 1 << 6);
        leastIs(cellEach(6), 6, 1, 1 << 5);
        Edges.says(22, "of these sets the least (bits)");
        leastIs(Texts.with("board 2 2;sign;sign;across 0 0 2;across 0 1 2;", ""), 0, 1, 1);
        CoveredSigns x = Texts.with("board 3 2;sign;sign;across 1 0 2;sign;across 0 0 1;across 2 1 1;", "");
        leastIs(x, 0, 2, 3);
    }

    private static void leastWithDirt() {
        Edges.says(22, "it is not CONFUSED with any other one");
        for (int d = 0; d < 3; d++) {
            int enough = 2 * d + 1;
            CoveredSigns x = Texts.with("sign;sign;across 0 0 " + enough + ";", "");
            x.dirt(d);
            leastIs(x, 0, enough, (1 << enough) - 1);
            if (d > 0) {
                CoveredSigns y = Texts.with("sign;sign;across 0 0 " + (enough - 1) + ";", "");
                y.dirt(d);
                leastIs(y, 0, NONE, NONE);
            }
        }
        CoveredSigns seven = Texts.with("sign;sign;across 0 0 6;across 0 1 6;", "");
        seven.dirt(3);
        leastIs(seven, 0, NONE, NONE);
        seven.dirt(2);
        leastIs(seven, 0, 5, 31);
    }

    private static void strokesAre(String board, String strokes, int want) {
        Edges.due("strokes of " + strokes, Texts.with(board + "sign;" + strokes, "").strokes(0), want);
    }

    private static void strokes() {
        Edges.says(23, "STROKES: the fewest straight rows of CELLS with PAINT (across or down, as long as may be)"
                + " that have all its PAINT.");
        strokesAre("", "", 0);
        strokesAre("", "across 5 4 1;", 1);
        strokesAre("", "across 0 0 6;", 1);
        strokesAre("", "down 5 0 5;", 1);
        strokesAre("", "across 0 0 6;clean 1 0;", 2);
        strokesAre("", "across 0 0 6;across 0 1 6;across 0 2 6;across 0 3 6;across 0 4 6;", 5);
        strokesAre("board 2 5;", "down 0 0 5;down 1 0 5;", 2);
        // the end of a row and the begin of the next are not one row
        strokesAre("", "across 5 0 1;across 0 1 1;", 2);
        strokesAre("board 2 2;", "across 1 0 1;across 0 1 1;", 2);
        StringBuilder fog = new StringBuilder();
        for (int cell = 0; cell < 30; cell++) {
            if ((cell % 6 + cell / 6) % 2 == 0) {
                fog.append("across ").append(cell % 6).append(' ').append(cell / 6).append(" 1;");
            }
        }
        strokesAre("", fog.toString(), 15);
    }

    private static void akinIs(CoveredSigns x, int family, int pair, int cells) {
        Edges.due("akin in " + family, x.akin(family, 0), pair);
        Edges.due("cells unlike in " + family, x.akin(family, 1), cells);
    }

    private static void akin() {
        Edges.says(24, "AKIN: 0 100 times the one, and the other one (by number; of like pairs the first), 1 how many CELLS;"
                + " NONE: there are not two.");
        akinIs(new CoveredSigns(), 0, NONE, NONE);
        String many = TWELVE + "across 0 0 6;across 0 1 6;across 0 2 6;across 0 3 6;across 0 4 6;";
        CoveredSigns x = Texts.with(many + "family 0 0;family 1 0;family 1 1;family 3 10;family 3 11;family 2 9;", "");
        akinIs(x, 0, NONE, NONE);
        akinIs(x, 1, 1, 0);
        akinIs(x, 2, NONE, NONE);
        akinIs(x, 3, 1011, 30);
        CoveredSigns like = Texts.with("board 2 2;sign;sign;across 0 0 1;sign;across 1 0 1;sign;"
                + "family 0 0;family 0 1;family 0 2;family 0 3;", "");
        akinIs(like, 0, 102, 2);
        CoveredSigns later = Texts.with("board 2 2;sign;sign;across 0 0 1;sign;sign;across 0 0 1;"
                + "family 0 0;family 0 1;family 0 2;family 0 3;", "");
        akinIs(later, 0, 1, 1);
    }

    private static void akinWrong() {
        Edges.says(24, "IllegalArgumentException: the FAMILY (0 to 3), what.");
        CoveredSigns x = Texts.with("sign;sign;family 3 0;family 3 1;", "");
        for (int wrong : Edges.beside(0, 3)) {
            Edges.illegal("family " + wrong, () -> x.akin(wrong, 0));
            Edges.illegal("family " + wrong + ", what 2", () -> x.akin(wrong, 2));
        }
        for (int what : Edges.beside(0, 1)) {
            Edges.illegal("what " + what, () -> x.akin(3, what));
            Edges.illegal("what " + what + " without two", () -> x.akin(0, what));
        }
    }

    private static void strangersAre(String text, int bits) {
        Edges.due("strangers of " + text, Texts.with(text, "").strangers(), bits);
    }

    private static void strangers() {
        Edges.says(25, "STRANGERS, as bits.");
        strangersAre("", 0);
        strangersAre("sign;family 0 0;", 0);
        Edges.says(25, "is nearer (fewer CELLS unlike) than all of its own (without others of its own: none)");
        String three = "board 3 2;sign;sign;across 0 0 2;sign;";
        strangersAre(three + "family 0 0;family 0 1;", 1);
        strangersAre(three + "across 0 0 1;family 0 0;family 0 1;", 3);
        strangersAre(three + "across 0 0 2;family 0 0;family 0 1;", 2);
        strangersAre(three + "across 1 0 2;family 0 0;family 0 1;", 0);
        strangersAre(three + "across 0 0 1;family 0 0;family 0 1;family 0 2;", 0);
        strangersAre(three + "across 0 0 1;family 0 0;family 0 1;family 3 2;", 3);
        strangersAre(three + "across 0 0 1;family 0 0;family 3 2;", 0);
        strangersAre(three + "across 0 0 1;family 0 0;family 1 1;family 3 2;", 0);
        Edges.says(25, "STRANGER: a SIGN of one to which some SIGN of none, or another one, is nearer");
        strangersAre(three + "across 0 0 1;family 3 2;", 0);
        strangersAre(three + "across 0 0 1;", 0);
        StringBuilder all = new StringBuilder("board 2 2;");
        for (int sign = 0; sign < 12; sign++) {
            all.append("sign;").append(sign / 4 == 0 ? "" : "across 0 0 " + sign / 4 + ";");
        }
        for (int sign = 0; sign < 12; sign++) {
            all.append("family ").append(sign % 4).append(' ').append(sign).append(';');
        }
        strangersAre(all.toString(), 4095);
    }
}
