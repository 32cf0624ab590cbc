/** Edges of promises 31 to 37: standing ones, seen from a ship. */
final class ShipEdges {
    private static final int NONE = Edges.NONE;
    private static final String TWO = "board 2 2;sign;";
    /** Signs unlike in the left column alone; a word, and one like it but for the first letter. */
    private static final String LEFT = "sign;sign;down 0 0 1;word aaa;word baa;";

    private ShipEdges() {
    }

    static void test() {
        stand();
        standWhere();
        leave();
        seenWrong();
        seen();
        ends();
        lesserY();
        seenBy();
        guess();
        known();
        knownLast();
        all();
        voyage();
        voyageLength();
    }

    private static void stand() {
        Edges.says(31, "One more is STANDING: how many there are; -1: there are 8.");
        CoveredSigns x = Texts.with(TWO, "");
        for (int i = 1; i <= 8; i++) {
            Edges.due("stand " + i, x.stand(0, 10 * i, 50), i);
        }
        Edges.due("seen before", x.seen(7, 90, false), 3);
        for (int i = 0; i < 3; i++) {
            Edges.due("a ninth", x.stand(0, 80, 1), -1);
            Edges.due("eight", x.count(1), 8);
        }
        Edges.noIndex("none stands there", () -> x.seen(8, 0, false));
        for (int board = 0; board < 8; board++) {
            Edges.due("it hides nothing", x.seen(board, 79, false), 3);
        }
        Edges.due("eight go", x.leave(), 8);
        Edges.due("room again", x.stand(0, 0, 1), 1);
    }

    private static void standWhere() {
        Edges.says(31, "IllegalArgumentException: X, Y.");
        Edges.says(31, "STANDING, 8 at most: a SIGN, X (0 to 99) of its left end, Y (1 to 99)");
        CoveredSigns x = Texts.with(TWO, "");
        for (int wrong : Edges.beside(0, 99)) {
            Edges.illegal("x " + wrong, () -> x.stand(0, wrong, 1));
        }
        for (int wrong : Edges.beside(1, 99)) {
            Edges.illegal("y " + wrong, () -> x.stand(0, 0, wrong));
        }
        Edges.due("none stands", x.count(1), 0);
        Edges.due("x 0, y 1", x.stand(0, 0, 1), 1);
        Edges.due("x 99, y 99", x.stand(0, 99, 99), 2);
        Edges.due("x 0, y 99", x.stand(0, 0, 99), 3);
        Edges.due("x 99, y 1", x.stand(0, 99, 1), 4);
    }

    private static void leave() {
        Edges.says(32, "All go: how many.");
        CoveredSigns x = Texts.with(TWO, "");
        Edges.due("none", x.leave(), 0);
        x.stand(0, 0, 10);
        x.stand(0, 0, 5);
        Edges.due("hidden", x.seen(0, 0, false), 0);
        Edges.due("two", x.leave(), 2);
        Edges.due("gone", x.count(1), 0);
        Edges.due("none then", x.leave(), 0);
        Edges.noIndex("no such one", () -> x.seen(0, 0, false));
        x.stand(0, 0, 10);
        Edges.due("nothing is left of them", x.seen(0, 0, false), 3);
    }

    private static void seenWrong() {
        Edges.says(33, "IndexOutOfBoundsException: no such one (so below). IllegalArgumentException: s.");
        CoveredSigns x = Texts.with(TWO, "");
        for (int stood = 0; stood <= 8; stood++) {
            boolean so = stood % 2 == 0;
            for (int board : new int[] {-1, stood, Integer.MIN_VALUE, Integer.MAX_VALUE}) {
                Edges.noIndex("seen " + board, () -> x.seen(board, 0, false));
                Edges.noIndex("seen from nowhere " + board, () -> x.seen(board, 100, true));
                Edges.noIndex("guess " + board, () -> x.guess(board, 0, true));
                Edges.noIndex("guess from nowhere " + board, () -> x.guess(board, -1, false));
                Edges.noIndex("known " + board, () -> x.known(board, so));
            }
            x.stand(0, 10 * stood, 1);
        }
        for (int s : Edges.beside(0, 99)) {
            Edges.illegal("seen from " + s, () -> x.seen(7, s, s > 0));
            Edges.illegal("guess from " + s, () -> x.guess(7, s, s < 0));
        }
        Edges.due("from 0", x.seen(7, 0, false), 3);
        Edges.due("from 99", x.seen(7, 99, false), 3);
        Edges.due("guess from 0", x.guess(7, 0, true), 1);
        Edges.due("guess from 99", x.guess(7, 99, true), 1);
    }

    private static void seen() {
        Edges.says(33, "Columns (bits, the left one the lowest) of a STANDING one that are SEEN from s (so far: BY s).");
        CoveredSigns alone = Texts.with("sign;", "");
        alone.stand(0, 99, 99);
        Edges.due("all six", alone.seen(0, 0, false), 63);
        Edges.due("all six by 99", alone.seen(0, 99, true), 63);
        alone.stand(0, 98, 98);
        // at y 98 the way to the last column is at 103.4 from 0, at 104.4 from 99
        Edges.due("far off, from 0", alone.seen(0, 0, false), 0);
        Edges.due("far off, from 99", alone.seen(0, 99, false), 32);
        CoveredSigns narrow = Texts.with(TWO, "");
        narrow.stand(0, 99, 2);
        narrow.stand(0, 99, 1);
        // from 99 the ways are at y 1 at 99.25 and 99.75; from 98 at 98.75 and 99.25
        Edges.due("from 99", narrow.seen(0, 99, false), 0);
        Edges.due("from 98", narrow.seen(0, 98, false), 1);
        Edges.due("from 97", narrow.seen(0, 97, false), 3);
    }

    /** From s the way to the left column of a board at 0, 5 is at y 2 at (3 s + 1) / 5. */
    private static void leftColumnIs(int otherX, int s, boolean isSeen) {
        CoveredSigns x = Texts.with(TWO, "");
        x.stand(0, 0, 5);
        x.stand(0, otherX, 2);
        Edges.due("left column behind one at " + otherX + ", from " + s, x.seen(0, s, false) & 1, isSeen ? 1 : 0);
    }

    private static void ends() {
        Edges.says(33, "if the straight way to its middle goes through another one that stands nearer (lesser Y), ends included");
        leftColumnIs(2, 3, false);
        leftColumnIs(2, 2, true);
        leftColumnIs(2, 4, false);
        leftColumnIs(3, 3, true);
        leftColumnIs(0, 3, false);
        leftColumnIs(0, 4, true);
        leftColumnIs(0, 2, false);
        leftColumnIs(1, 3, false);
        // 8: (3 * 8 + 1) / 5 is 5
        leftColumnIs(5, 8, false);
        leftColumnIs(3, 8, false);
        leftColumnIs(2, 8, true);
        leftColumnIs(6, 8, true);
    }

    private static void lesserY() {
        Edges.says(33, "another one that stands nearer (lesser Y)");
        for (int y : new int[] {1, 2, 50, 99}) {
            for (int otherY : new int[] {y - 1, y, y + 1}) {
                if (otherY >= 1 && otherY <= 99) {
                    CoveredSigns x = Texts.with("sign;", "");
                    x.stand(0, 20, y);
                    x.stand(0, 20, otherY);
                    Edges.due("y " + y + " behind y " + otherY, x.seen(0, 22, false) >> 2 & 1, otherY < y ? 0 : 1);
                    Edges.due("y " + otherY + " behind y " + y, x.seen(1, 22, false) >> 2 & 1, y < otherY ? 0 : 1);
                }
            }
        }
    }

    private static void seenBy() {
        Edges.says(33, "SEEN BY s: from any of 0 to s.");
        CoveredSigns x = Texts.with(TWO, "");
        x.stand(0, 0, 10);
        x.stand(0, 1, 5);
        // the right column is hidden from 1 to 4, the left one from 2 to 5
        int[] from = {3, 1, 0, 0, 0, 2, 3};
        for (int s = 0; s < from.length; s++) {
            Edges.due("from " + s, x.seen(0, s, false), from[s]);
            Edges.due("by " + s + ", as all was seen from 0", x.seen(0, s, true), 3);
        }
        CoveredSigns y = Texts.with(TWO, "");
        y.stand(0, 0, 10);
        y.stand(0, 0, 5);
        int[] fromThere = {0, 0, 0, 2, 3};
        for (int s = fromThere.length - 1; s >= 0; s--) {
            Edges.due("from " + s, y.seen(0, s, false), fromThere[s]);
            Edges.due("by " + s + ", no farther", y.seen(0, s, true), fromThere[s]);
        }
    }

    private static void guess() {
        Edges.says(34, "What it MAY be.");
        CoveredSigns x = Texts.with("board 2 2;" + "sign;".repeat(11) + "sign;down 0 0 1;", "");
        x.stand(0, 0, 10);
        x.stand(11, 0, 5);
        Edges.due("nothing seen", x.guess(0, 0, false), 4095);
        Edges.due("the right column alone", x.guess(0, 3, false), 4095);
        Edges.due("both columns", x.guess(0, 4, false), 2047);
        Edges.due("by", x.guess(0, 3, true), 4095);
        Edges.due("by the next", x.guess(0, 4, true), 2047);
        Edges.due("the last", x.guess(1, 0, false), 2048);
        x.dirt(1);
        Edges.due("with dirt", x.guess(1, 0, false), 4095);
    }

    private static void known() {
        Edges.says(35, "The first s from (BY) which it is KNOWN; NONE.");
        CoveredSigns x = Texts.with("board 2 2;sign;sign;down 0 0 1;", "");
        x.stand(0, 0, 10);
        x.stand(1, 0, 5);
        Edges.due("the near one", x.known(1, false), 0);
        Edges.due("the far one", x.known(0, false), 4);
        Edges.due("the far one, by", x.known(0, true), 4);
        x.dirt(1);
        Edges.due("with dirt", x.known(1, true), NONE);
        CoveredSigns like = Texts.with("sign;sign;", "");
        like.stand(0, 0, 1);
        Edges.due("like another", like.known(0, false), NONE);
        Edges.due("like another, by", like.known(0, true), NONE);
        CoveredSigns one = Texts.with("sign;", "");
        one.stand(0, 0, 1);
        one.dirt(3);
        Edges.due("the only sign", one.known(0, false), 0);
    }

    /** Two near ones hide the left column of a far one from 0 on, up to 98 if it stands at 53, for good if at 54. */
    private static CoveredSigns farOff(int x) {
        CoveredSigns signs = Texts.with(LEFT, "");
        signs.stand(0, x, 10);
        signs.stand(0, x - 6, 9);
        signs.stand(0, x - 1, 9);
        return signs;
    }

    private static void knownLast() {
        Edges.says(35, "From a SHIP at x s (0 to 99), y 0");
        CoveredSigns x = farOff(53);
        CoveredSigns y = farOff(54);
        // at y 9 the way is at 48.15 and s / 10, to be set beside 58; at 49.05 and s / 10, beside 59
        Edges.due("hidden from 98", x.seen(0, 98, false) & 1, 0);
        Edges.due("seen from 99", x.seen(0, 99, false) & 1, 1);
        Edges.due("hidden from 99", y.seen(0, 99, false) & 1, 0);
        for (boolean so : new boolean[] {false, true}) {
            Edges.due("known from the last", x.known(0, so), 99);
            Edges.due("all from the last", x.all(so), 99);
            Edges.due("the word from the last", x.voyage(so), 99);
            Edges.due("known from none", y.known(0, so), NONE);
            Edges.due("all from none", y.all(so), NONE);
            Edges.due("the word from none", y.voyage(so), NONE);
            Edges.due("the near one", y.known(1, so), 0);
        }
    }

    private static void all() {
        Edges.says(36, "The first s from (BY) which all are KNOWN; NONE (0 without).");
        CoveredSigns none = new CoveredSigns();
        Edges.due("without", none.all(false), 0);
        Edges.due("without, by", none.all(true), 0);
        CoveredSigns x = Texts.with("board 2 2;sign;sign;down 0 0 1;sign;down 1 0 1;", "");
        x.dirt(3);
        Edges.due("without, with dirt", x.all(false), 0);
        x.dirt(0);
        x.stand(0, 0, 10);
        Edges.due("one", x.all(false), 0);
        x.stand(1, 1, 5);
        // the far one is seen whole from 0, and from 6 on
        Edges.due("from 0", x.all(false), 0);
        x.stand(0, 20, 10);
        x.stand(1, 10, 5);
        // the right column of the second far one is hidden up to 2, the left one up to 3
        Edges.due("the second far one", x.known(2, false), 4);
        Edges.due("from 6", x.all(false), 6);
        Edges.due("the first one by 0, the second one by 4", x.all(true), 4);
        x.dirt(1);
        Edges.due("never", x.all(false), NONE);
        Edges.due("never, by", x.all(true), NONE);
        x.leave();
        Edges.due("without again", x.all(true), 0);
    }

    private static void voyage() {
        Edges.says(37, "The first s from (BY) which the WORD is KNOWN; NONE.");
        CoveredSigns x = Texts.with("board 2 2;sign;sign;down 0 0 1;word ab;word bb;word a;word aba;", "");
        Edges.due("none stands", x.voyage(false), NONE);
        Edges.due("none stands, by", x.voyage(true), NONE);
        x.stand(0, 0, 10);
        Edges.due("a", x.voyage(false), 0);
        x.stand(1, 0, 5);
        Edges.due("ab or bb till its left column is seen", x.voyage(false), 4);
        Edges.due("by", x.voyage(true), 4);
        x.dirt(1);
        Edges.due("never", x.voyage(true), NONE);
        x.dirt(0);
        x.stand(0, 50, 5);
        Edges.due("aba, the only one of three", x.voyage(false), 0);
        x.stand(0, 60, 5);
        Edges.due("abaa is not told", x.voyage(false), NONE);
        Edges.says(37, "told twice it is one; NONE, if that WORD is not told");
        CoveredSigns twice = Texts.with("sign;sign;word a;word a;", "");
        twice.stand(0, 0, 1);
        Edges.due("told twice", twice.voyage(false), 0);
        twice.leave();
        twice.stand(1, 0, 1);
        Edges.due("b looks like a, but is not told", twice.voyage(false), NONE);
        CoveredSigns like = Texts.with("sign;sign;word a;word b;", "");
        like.stand(0, 0, 1);
        Edges.due("two words, of like signs", like.voyage(false), NONE);
        like.leave();
        like.stand(1, 0, 1);
        Edges.due("the other one of them", like.voyage(false), NONE);
    }

    private static void voyageLength() {
        Edges.says(37, "if of WORDS of as many letters it alone MAY be");
        CoveredSigns x = Texts.with("sign;word a;word aa;word aaa;word aaaa;word aaaaa;word aaaaaa;", "");
        for (int stood = 1; stood <= 8; stood++) {
            x.stand(0, 10 * stood, 1);
            Edges.due(stood + " letters", x.voyage(stood % 2 == 0), stood <= 6 ? 0 : NONE);
        }
        CoveredSigns prefix = Texts.with("sign;sign;across 0 0 1;word aaaaaa;word aaaaab;word aaaaa;", "");
        for (int stood = 1; stood <= 7; stood++) {
            prefix.stand(0, 10 * stood, 1);
            Edges.due(stood + " of six letters", prefix.voyage(false), stood == 5 || stood == 6 ? 0 : NONE);
        }
    }
}
