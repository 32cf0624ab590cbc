/** Edges of promises 15 to 21: parts, the row, its words. */
final class RowEdges {
    private static final int NONE = Edges.NONE;
    private static final String TWELVE = "sign;".repeat(12);

    private RowEdges() {
    }

    static void test() {
        paintOnTheBoard();
        may();
        mayWithDirt();
        read();
        nearest();
        part();
        partBehindAnotherRule();
        forget();
        words();
        sure();
    }

    private static void paintOnTheBoard() {
        Edges.says(15, "IllegalArgumentException: PAINT that is not on the board (so of PARTS).");
        int[][] boards = {{2, 2}, {2, 3}, {6, 2}, {5, 5}, {6, 5}};
        for (int[] size : boards) {
            CoveredSigns x = Texts.with("board " + size[0] + " " + size[1] + ";sign;", "any 0 or side 0 " + size[0]);
            int all = (1 << size[0] * size[1]) - 1;
            for (int cover = 0; cover < 2; cover++) {
                int c = cover;
                int unlike = cover == 0 ? NONE : 0;
                Edges.due("may, no paint", x.may(c, 0), 1);
                Edges.due("may, all paint", x.may(c, all), cover);
                Edges.due("read, all paint", x.read(c, all), unlike);
                Edges.due("nearest, all paint", x.nearest(c, all), 0);
                Edges.due("part, all paint", x.part(c, all), cover + 1);
                for (int paint : new int[] {all + 1, -1, Integer.MIN_VALUE, Integer.MAX_VALUE, all + 1 | 1}) {
                    Edges.illegal("may, paint " + paint, () -> x.may(c, paint));
                    Edges.illegal("read, paint " + paint, () -> x.read(c, paint));
                    Edges.illegal("nearest, paint " + paint, () -> x.nearest(c, paint));
                    Edges.illegal("part, paint " + paint, () -> x.part(c, paint));
                }
            }
            Edges.due("parts", x.count(0), 2);
        }
    }

    private static void may() {
        Edges.says(15, "What a PART MAY be, as bits.");
        Edges.due("without signs", new CoveredSigns().may(0, 0), 0);
        Edges.due("twelve", Texts.with(TWELVE, "").may(0, 0), 4095);
        Edges.due("the last alone", Texts.with(TWELVE + "across 5 4 1;", "").may(0, 1 << 29), 2048);
        Edges.due("none", Texts.with(TWELVE, "").may(0, 1), 0);
        CoveredSigns x = Texts.with("board 3 2;sign;across 0 0 3;sign;", "any 0 or side 2 1");
        Edges.due("what is hidden is no matter", x.may(1, 5), 3);
        Edges.due("what is seen is", x.may(1, 8), 0);
    }

    private static void mayWithDirt() {
        Edges.says(15, "It MAY be a SIGN, if d CELLS, or fewer, that are seen are unlike.");
        CoveredSigns x = Texts.with("sign;", "any 0 or side 0 1");
        for (int d = 0; d < 4; d++) {
            x.dirt(d);
            for (int cells = 0; cells < 6; cells++) {
                int paint = (1 << cells) - 1;
                Edges.due(cells + " cells, d " + d, x.may(0, paint), cells <= d ? 1 : 0);
                Edges.due(cells + " cells, d " + d, x.read(0, paint), cells <= d ? 0 : NONE);
                Edges.due("one of them hidden, d " + d, x.may(1, paint), cells - 1 <= d ? 1 : 0);
            }
        }
    }

    private static void read() {
        Edges.says(16, "READ; NONE: none, or several.");
        Edges.due("without signs", new CoveredSigns().read(0, 0), NONE);
        CoveredSigns x = Texts.with(TWELVE + "across 5 4 1;", "any 0 or corner 3 1");
        Edges.due("the last", x.read(0, 1 << 29), 11);
        Edges.due("eleven", x.read(0, 0), NONE);
        Edges.due("none", x.read(0, 1), NONE);
        Edges.due("twelve", x.read(1, 0), NONE);
        Edges.due("the first of two", Texts.with("sign;sign;across 0 0 1;", "").read(0, 0), 0);
        Edges.due("two", Texts.with("sign;sign;", "").read(0, 0), NONE);
    }

    private static void nearest() {
        Edges.says(17, "NEAREST (NONE without SIGNS).");
        CoveredSigns none = new CoveredSigns();
        Edges.due("without signs", none.nearest(0, 0), NONE);
        Edges.due("without signs", none.nearest(0, (1 << 30) - 1), NONE);
        Edges.due("all cells unlike", Texts.with("sign;", "").nearest(0, (1 << 30) - 1), 0);
        Edges.due("the last", Texts.with(TWELVE + "across 5 4 1;", "").nearest(0, 1 << 29), 11);
        Edges.says(17, "NEAREST: the SIGN with the fewest CELLS seen that are unlike, of these the first.");
        CoveredSigns x = Texts.with("sign;across 0 0 2;sign;sign;across 0 0 1;sign;across 0 0 1;", "any 0 or side 0 2");
        Edges.due("the first of two", x.nearest(0, 1), 2);
        Edges.due("nothing seen is unlike", x.nearest(1, 1), 0);
        Edges.due("as near on both sides", x.nearest(0, 2), 0);
        x.dirt(3);
        Edges.due("d is no matter", x.nearest(0, 1), 2);
    }

    private static void part() {
        Edges.says(18, "A PART comes to the ROW: how many there are; -1: there are 6.");
        CoveredSigns x = Texts.with("sign;sign;across 0 0 1;word abaaba;word abaabb;", "any 0 or side 0 6");
        int[] paint = {0, 1, 0, 0, 1, 0};
        for (int i = 0; i < 6; i++) {
            Edges.due("parts before", x.count(0), i);
            Edges.due("part " + i, x.part(0, paint[i]), i + 1);
        }
        Edges.due("its words", x.words(), 1);
        for (int i = 0; i < 3; i++) {
            Edges.due("a seventh", x.part(1, 1), -1);
            Edges.due("six", x.count(0), 6);
            Edges.due("the row is as it was", x.words(), 1);
        }
        Edges.due("six go", x.forget(), 6);
        Edges.due("room again", x.part(1, 0), 1);
    }

    private static void partBehindAnotherRule() {
        Edges.says(18, "A PART: a COVER (the CELLS it hides then, also behind another RULE), and PAINT seen");
        CoveredSigns x = Texts.with("sign;sign;across 0 0 1;word a;word b;", "corner 0 1");
        x.part(0, 0);
        Edges.due("hidden", x.words(), 3);
        x.image();
        Texts.rule(x, "any 0");
        Edges.due("gone", x.words(), 0);
        x.part(0, 0);
        Edges.due("seen", x.words(), 1);
        x.restore();
        Edges.due("what it hid then", x.words(), 3);
    }

    private static void forget() {
        Edges.says(19, "The ROW goes: how many PARTS.");
        CoveredSigns x = Texts.with("sign;word a;", "");
        Edges.due("none", x.forget(), 0);
        x.part(0, 0);
        Edges.due("one", x.forget(), 1);
        Edges.due("gone", x.count(0), 0);
        Edges.due("no word", x.words(), 0);
        Edges.due("none again", x.forget(), 0);
        for (int i = 0; i < 7; i++) {
            x.part(0, 0);
        }
        Edges.due("six", x.forget(), 6);
        Edges.due("none then", x.forget(), 0);
    }

    private static void words() {
        Edges.says(20, "WORDS the ROW MAY be, as bits.");
        CoveredSigns none = Texts.with("sign;", "");
        Edges.due("no words, no parts", none.words(), 0);
        none.part(0, 0);
        Edges.due("no words", none.words(), 0);
        StringBuilder text = new StringBuilder("sign;sign;across 0 0 1;");
        for (int letters = 1; letters <= 6; letters++) {
            text.append("word ").append("a".repeat(letters)).append(';');
        }
        CoveredSigns x = Texts.with(text.append("word aaaaab;word baaaaa;").toString(), "any 0 or corner 0 1");
        Edges.due("a row of none is no word", x.words(), 0);
        for (int letters = 1; letters <= 5; letters++) {
            x.part(0, 0);
            Edges.due("as many letters as " + letters, x.words(), 1 << letters - 1);
        }
        x.part(1, 0);
        Edges.due("the last hidden", x.words(), 32 + 64);
        x.dirt(1);
        Edges.due("with dirt", x.words(), 32 + 64 + 128);
        CoveredSigns eight = Texts.with("sign;" + "word a;".repeat(8), "");
        eight.part(0, 0);
        Edges.due("eight", eight.words(), 255);
        eight.part(0, 0);
        Edges.due("too long a row", eight.words(), 0);
    }

    private static void sure() {
        Edges.says(21, "The SIGN that is SURE at a place of the ROW; NONE: it is not, or there is no such WORD, or place.");
        CoveredSigns x = Texts.with(TWELVE + "across 0 0 1;word la;word lb;word lllll;word llllll;word aaaaaa;",
                "any 0 or corner 0 1");
        Edges.due("no row", x.sure(0), NONE);
        x.part(0, 1);
        Edges.due("no word of one letter", x.sure(0), NONE);
        x.part(0, 0);
        for (int place : Edges.beside(0, 1)) {
            Edges.due("place " + place, x.sure(place), NONE);
        }
        Edges.due("sure", x.sure(0), 11);
        Edges.due("a or b", x.sure(1), NONE);
        x.forget();
        for (int i = 0; i < 6; i++) {
            x.part(0, 1);
        }
        Edges.due("the last place", x.sure(5), 11);
        for (int place : Edges.beside(0, 5)) {
            Edges.due("place " + place, x.sure(place), NONE);
        }
        x.dirt(1);
        Edges.due("two words", x.sure(5), NONE);
        x.dirt(0);
        x.forget();
        x.part(0, 1);
        x.part(0, 1);
        Edges.due("no such word", x.sure(0), NONE);
        CoveredSigns first = Texts.with("sign;sign;word a;word a;", "");
        first.part(0, 0);
        Edges.due("0 is a sign", first.sure(0), 0);
    }
}
