/** Edges of promises 38, 39 and 40, and what refused calls of all promises leave as it was. */
final class ImageEdges {
    private static final int NONE = Edges.NONE;
    private static final String ILLEGAL = Edges.thrown(IllegalArgumentException.class);
    private static final String NO_INDEX = Edges.thrown(IndexOutOfBoundsException.class);
    private static final String NO_ELEMENT = Edges.thrown(java.util.NoSuchElementException.class);

    private ImageEdges() {
    }

    static void test() {
        image();
        restore();
        restoreWhat();
        count();
        refusedTapes();
        refusedRows();
        refusedQuestions();
        refusedShips();
        refusedImages();
    }

    private static void image() {
        Edges.says(38, "An IMAGE of d, PARTS, STANDING ones: how many there are; -1: there are 3.");
        CoveredSigns x = Texts.with("sign;", "");
        for (int i = 1; i <= 3; i++) {
            Edges.due("images before", x.count(2), i - 1);
            x.dirt(i);
            Edges.due("image " + i, x.image(), i);
        }
        x.dirt(0);
        Edges.due("a fourth", x.image(), -1);
        Edges.due("three", x.count(2), 3);
        Edges.due("one goes", x.restore(), 2);
        Edges.due("it is the third", x.told(5), 3);
        Edges.due("room again", x.image(), 3);
        Edges.due("a fourth again", x.image(), -1);
    }

    private static void restore() {
        Edges.says(39, "All is as in the latest IMAGE, which is gone: how many are left; -1: there is none.");
        CoveredSigns x = Texts.with("sign;", "");
        x.dirt(2);
        Edges.due("none", x.restore(), -1);
        Edges.due("d stays", x.told(5), 2);
        for (int i = 1; i <= 3; i++) {
            x.dirt(i);
            x.image();
        }
        for (int i = 3; i >= 1; i--) {
            x.dirt(0);
            Edges.due("left", x.restore(), i - 1);
            Edges.due("its d", x.told(5), i);
            Edges.due("images", x.count(2), i - 1);
        }
        x.dirt(0);
        Edges.due("none is left", x.restore(), -1);
        Edges.due("d stays", x.told(5), 0);
        x.image();
        Texts.alphabet(x, "sign;");
        Edges.due("gone with the alphabet", x.restore(), -1);
        x.image();
        Texts.alphabet(x, "sing;");
        Edges.due("stays with a fault", x.count(2), 1);
        Texts.rule(x, "any 1");
        Edges.due("stays with a rule", x.restore(), 0);
    }

    /** The same things as when the image was made, whether more or fewer came since. */
    private static void restoreWhat() {
        Edges.says(39, "All is as in the latest IMAGE");
        String signs = "board 2 2;sign;sign;across 0 0 1;sign;across 0 0 2;word a;word b;word ab;word ba;word bac;word cab;";
        for (int before = 0; before <= 8; before++) {
            for (int after = 0; after <= 8; after += 4) {
                CoveredSigns x = Texts.with(signs, "any 0 or side 0 1 or side 0 2");
                fill(x, before, 0);
                x.dirt(before % 4);
                String scene = Edges.scene(x);
                x.image();
                x.leave();
                x.forget();
                fill(x, after, 1);
                x.dirt(3 - before % 4);
                x.image();
                fill(x, 8, 2);
                Edges.due("left", x.restore(), 1);
                Edges.due("standing ones of the later image", x.count(1), after);
                Edges.due("left", x.restore(), 0);
                Edges.same("the scene", Edges.scene(x), scene);
                Edges.due("parts", x.count(0), Math.min(6, before));
                Edges.due("standing ones", x.count(1), before);
                Edges.due("parts go", x.forget(), Math.min(6, before));
                Edges.due("standing ones go", x.leave(), before);
            }
        }
        rowOfImage();
        boardOfImage();
    }

    /** Cover and paint of a part are those of the image. */
    private static void rowOfImage() {
        for (int cover = 0; cover < 2; cover++) {
            for (int paint = 0; paint < 2; paint++) {
                CoveredSigns x = Texts.with("board 2 2;sign;sign;across 0 0 1;word a;word b;", "any 0 or corner 0 1");
                x.part(cover, paint);
                x.image();
                x.forget();
                x.part(1 - cover, 1 - paint);
                x.restore();
                Edges.due("words of cover " + cover + ", paint " + paint, x.words(), cover == 1 ? 3 : 1 << paint);
            }
        }
    }

    /** Sign, X and Y of a standing one are those of the image. */
    private static void boardOfImage() {
        CoveredSigns x = Texts.with("board 2 2;sign;sign;across 0 0 1;", "");
        x.stand(1, 0, 10);
        x.stand(0, 0, 5);
        x.image();
        x.leave();
        x.stand(0, 40, 10);
        x.stand(1, 70, 50);
        Edges.due("seen while they are gone", x.seen(0, 0, false), 3);
        x.restore();
        Edges.due("hidden", x.seen(0, 0, false), 0);
        Edges.due("seen from 4", x.seen(0, 4, false), 3);
        Edges.due("the far one", x.guess(0, 4, false), 2);
        Edges.due("the near one", x.guess(1, 4, false), 1);
    }

    private static void fill(CoveredSigns x, int count, int shift) {
        for (int i = 0; i < count; i++) {
            x.part((i + shift) % 3, (i + shift) % 4);
            x.stand((i + shift) % 3, 9 - i + 3 * shift, 10 - i + shift * (i % 3));
        }
    }

    private static void count() {
        Edges.says(40, "0 PARTS, 1 STANDING ones, 2 IMAGES, 3 bytes of the TAPE; NONE for others.");
        CoveredSigns none = new CoveredSigns();
        CoveredSigns full = Edges.full();
        int[] most = {6, 8, 3, 500};
        for (int what = 0; what < 4; what++) {
            Edges.due("none of " + what, none.count(what), 0);
            Edges.due("all of " + what, full.count(what), most[what]);
        }
        for (int what : Edges.beside(0, 3)) {
            Edges.due("count " + what, none.count(what), NONE);
            Edges.due("count " + what, full.count(what), NONE);
        }
    }

    private static void bothRefuse(String call, Edges.On refused, String outcome) {
        Edges.leavesAll(call, Edges::rich, refused, outcome);
        Edges.leavesAll(call, Edges::full, refused, outcome);
    }

    private static void refusedTapes() {
        Edges.says(2, "NONE, doing nothing, if there would be more than 500.");
        Edges.leavesAll("feed", Edges::full, x -> x.feed(1, 2, 3, 4, 5), "answers -1");
        Edges.says(3, "IllegalArgumentException: n is not 0 to the TAPE's bytes (it stays).");
        bothRefuse("alphabet(501)", x -> x.alphabet(501), ILLEGAL);
        bothRefuse("alphabet(-1)", x -> x.alphabet(-1), ILLEGAL);
        Edges.says(4, "Likewise the RULE");
        bothRefuse("rule(501)", x -> x.rule(501), ILLEGAL);
        bothRefuse("rule(-1)", x -> x.rule(-1), ILLEGAL);
    }

    private static void refusedRows() {
        Edges.says(11, "d is told (0 to 3)");
        bothRefuse("dirt(4)", x -> x.dirt(4), ILLEGAL);
        bothRefuse("dirt(-1)", x -> x.dirt(-1), ILLEGAL);
        Edges.says(18, "-1: there are 6");
        Edges.leavesAll("part", Edges::full, x -> x.part(0, 0), "answers -1");
        Edges.says(18, "int part(int cover, int paint) throws IndexOutOfBoundsException, IllegalArgumentException");
        bothRefuse("part(3, 0)", x -> x.part(3, 0), NO_INDEX);
        bothRefuse("part(-1, 64)", x -> x.part(-1, 64), NO_INDEX);
        bothRefuse("part(2, 64)", x -> x.part(2, 64), ILLEGAL);
        bothRefuse("part(0, -1)", x -> x.part(0, -1), ILLEGAL);
        Edges.says(15, "PAINT that is not on the board (so of PARTS)");
        bothRefuse("may(0, 64)", x -> x.may(0, 64), ILLEGAL);
        bothRefuse("may(3, 64)", x -> x.may(3, 64), NO_INDEX);
        Edges.says(16, "int read(int cover, int paint) throws IndexOutOfBoundsException, IllegalArgumentException");
        bothRefuse("read(0, 64)", x -> x.read(0, 64), ILLEGAL);
        bothRefuse("read(3, 64)", x -> x.read(3, 64), NO_INDEX);
        Edges.says(17, "int nearest(int cover, int paint) throws IndexOutOfBoundsException, IllegalArgumentException");
        bothRefuse("nearest(0, 64)", x -> x.nearest(0, 64), ILLEGAL);
        bothRefuse("nearest(3, 64)", x -> x.nearest(3, 64), NO_INDEX);
    }

    private static void refusedQuestions() {
        Edges.says(6, "IllegalArgumentException: another what (so below)");
        bothRefuse("told(6)", x -> x.told(6), ILLEGAL);
        bothRefuse("blind(2)", x -> x.blind(2), ILLEGAL);
        bothRefuse("changed(3)", x -> x.changed(3), ILLEGAL);
        bothRefuse("steps(2)", x -> x.steps(2), ILLEGAL);
        bothRefuse("akin(0, 2)", x -> x.akin(0, 2), ILLEGAL);
        bothRefuse("akin(4, 0)", x -> x.akin(4, 0), ILLEGAL);
        bothRefuse("least(0, 2)", x -> x.least(0, 2), ILLEGAL);
        Edges.says(7, "NoSuchElementException: no such SIGN (so below)");
        bothRefuse("sign(4)", x -> x.sign(4), NO_ELEMENT);
        bothRefuse("family(4)", x -> x.family(4), NO_ELEMENT);
        bothRefuse("strokes(4)", x -> x.strokes(4), NO_ELEMENT);
        bothRefuse("least(4, 0)", x -> x.least(4, 0), NO_ELEMENT);
        bothRefuse("confused(0, 4)", x -> x.confused(0, 4), NO_ELEMENT);
        Edges.says(12, "IllegalArgumentException: they are one");
        bothRefuse("confused(3, 3)", x -> x.confused(3, 3), ILLEGAL);
        Edges.says(9, "IndexOutOfBoundsException: no such WORD. IllegalArgumentException: the place (0 to 5).");
        bothRefuse("word(3, 0)", x -> x.word(3, 0), NO_INDEX);
        bothRefuse("word(0, 6)", x -> x.word(0, 6), ILLEGAL);
        Edges.says(10, "IndexOutOfBoundsException: no such COVER (so below)");
        bothRefuse("cover(3)", x -> x.cover(3), NO_INDEX);
    }

    private static void refusedShips() {
        Edges.says(31, "One more is STANDING: how many there are; -1: there are 8. IllegalArgumentException: X, Y.");
        Edges.leavesAll("stand", Edges::full, x -> x.stand(3, 1, 1), "answers -1");
        bothRefuse("stand(4, 0, 1)", x -> x.stand(4, 0, 1), NO_ELEMENT);
        bothRefuse("stand(4, -1, 1)", x -> x.stand(4, -1, 1), NO_ELEMENT);
        bothRefuse("stand(3, 100, 1)", x -> x.stand(3, 100, 1), ILLEGAL);
        bothRefuse("stand(3, -1, 1)", x -> x.stand(3, -1, 1), ILLEGAL);
        bothRefuse("stand(3, 0, 0)", x -> x.stand(3, 0, 0), ILLEGAL);
        bothRefuse("stand(3, 0, 100)", x -> x.stand(3, 0, 100), ILLEGAL);
        Edges.says(33, "IndexOutOfBoundsException: no such one (so below). IllegalArgumentException: s.");
        bothRefuse("seen(8, 0, false)", x -> x.seen(8, 0, false), NO_INDEX);
        bothRefuse("seen(0, 100, true)", x -> x.seen(0, 100, true), ILLEGAL);
        bothRefuse("guess(-1, 100, false)", x -> x.guess(-1, 100, false), NO_INDEX);
        bothRefuse("guess(0, -1, false)", x -> x.guess(0, -1, false), ILLEGAL);
        bothRefuse("known(8, true)", x -> x.known(8, true), NO_INDEX);
    }

    private static void refusedImages() {
        Edges.says(38, "-1: there are 3");
        Edges.leavesAll("image", Edges::full, CoveredSigns::image, "answers -1");
        Edges.says(39, "-1: there is none");
        Edges.leavesAll("restore", ImageEdges::withoutImages, CoveredSigns::restore, "answers -1");
    }

    /** As rich, once its images are used up. */
    private static CoveredSigns withoutImages() {
        CoveredSigns x = Edges.rich();
        x.restore();
        x.restore();
        return x;
    }
}
