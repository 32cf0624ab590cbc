import java.util.NoSuchElementException;

/** At least one test for each promise of the document, by its number. */
public final class PromisesTest {
    private static final Class<?> ILLEGAL = IllegalArgumentException.class;
    private static final Class<?> NO_ELEMENT = NoSuchElementException.class;
    private static final Class<?> NO_INDEX = IndexOutOfBoundsException.class;

    /** Three cells across, two down: signs 7, 9, 36, 36. */
    private static final String FOUR = "board 3 2;sign;across 0 0 3;sign;down 0 0 2;turned 1;mirror 1;"
            + "family 0 0;family 1 2;family 0 1;word ab;word aa;word cdab;";

    /** One sign that has paint on all thirty cells. */
    private static final String FULL = "sign;across 0 0 6;across 0 1 6;across 0 2 6;across 0 3 6;across 0 4 6;";

    private PromisesTest() {
    }

    public static void main(String[] args) {
        for (int promise = 1; promise <= 40; promise++) {
            Texts.about("promise " + promise);
            test(promise);
        }
        Texts.end();
        System.out.println("promises 1 to 40 hold");
    }

    private static void test(int promise) {
        switch (promise) {
            case 1 -> newObject();
            case 2 -> feed();
            case 3 -> alphabet();
            case 4 -> rule();
            case 5 -> fault();
            case 6 -> told();
            case 7 -> sign();
            case 8 -> family();
            case 9 -> word();
            case 10 -> cover();
            case 11 -> dirt();
            case 12 -> confused();
            case 13 -> confusions();
            case 14 -> blind();
            case 15 -> may();
            case 16 -> read();
            case 17 -> nearest();
            case 18 -> part();
            case 19 -> forget();
            case 20 -> words();
            case 21 -> sure();
            case 22 -> least();
            case 23 -> strokes();
            case 24 -> akin();
            case 25 -> strangers();
            case 26 -> changed();
            case 27 -> bound();
            case 28 -> steps();
            case 29 -> most();
            case 30 -> taken();
            case 31 -> stand();
            case 32 -> leave();
            case 33 -> seen();
            case 34 -> guess();
            case 35 -> known();
            case 36 -> all();
            case 37 -> voyage();
            case 38 -> image();
            case 39 -> restore();
            default -> count();
        }
    }

    private static void due(String call, int got, int want) {
        Texts.due(call, got, want);
    }

    private static void newObject() {
        CoveredSigns x = new CoveredSigns();
        int[] told = {0, 6, 5, 0, 1, 0};
        for (int what = 0; what < 6; what++) {
            due("told " + what, x.told(what), told[what]);
        }
        for (int what = 0; what < 4; what++) {
            due("count " + what, x.count(what), 0);
        }
        due("cover", x.cover(0), 0);
        due("fault", x.fault(), CoveredSigns.NONE);
        due("NONE", CoveredSigns.NONE, -1);
        due("bound", x.bound(), 0);
        due("most", x.most(), -1);
        due("all", x.all(true), 0);
        Texts.dueThrow("sign", NO_ELEMENT, () -> x.sign(0));
    }

    private static void feed() {
        CoveredSigns x = new CoveredSigns();
        for (int i = 1; i <= 25; i++) {
            due("feed " + i, x.feed(i, -i, 0, Integer.MIN_VALUE, Integer.MAX_VALUE), 20 * i);
        }
        due("feed 26", x.feed(0, 0, 0, 0, 0), -1);
        due("tape stays", x.count(3), 500);
        CoveredSigns y = new CoveredSigns();
        // "board 2 3;sign;across 0 0 1;" with the highest byte of each number first
        y.feed(0x626f6172, 0x64203220, 0x333b7369, 0x676e3b61, 0x63726f73);
        y.feed(0x73203020, 0x3020313b, 0, 0, 0);
        due("bytes in order", y.alphabet(28), 1);
        due("height", y.told(2), 3);
        y.feed(0x20202020, 0xe9202020, 0, 0, 0);
        due("a byte above 127", y.alphabet(20), -9);
        due("its place", y.fault(), 4);
    }

    private static void alphabetIs(String text, int answer, int fault) {
        CoveredSigns x = new CoveredSigns();
        due("alphabet " + text, Texts.alphabet(x, text), answer);
        due("fault of " + text, x.fault(), fault);
        due("tape of " + text, x.count(3), 0);
    }

    private static void alphabet() {
        alphabetIs("", 0, -1);
        alphabetIs("   ", 0, -1);
        alphabetIs("sign;sign;", 2, -1);
        alphabetIs(" board2   2 ; sign ; across0 1 2 ; ", 1, -1);
        alphabetIs("sign; across 0 0 0006;", 1, -1);
        alphabetIs("sign", -9, 4);
        alphabetIs("sign  ", -9, 6);
        alphabetIs(";", -9, 0);
        alphabetIs(" signs;", -9, 1);
        alphabetIs("Sign;", -9, 0);
        alphabetIs("sign;;", -9, 5);
        alphabetIs("across 0 0 1;", -9, 0);
        alphabetIs("  down x", -9, 2);
        alphabetIs("clean 0 0;", -9, 0);
        alphabetIs("sign;across 0 0 ;", -9, 16);
        alphabetIs("sign;across 6 0 1;", -8, 12);
        alphabetIs("sign;across 0 5 1;", -8, 14);
        alphabetIs("sign;across 1 0 6;", -8, 16);
        alphabetIs("sign;across 1 0 5;", 1, -1);
        alphabetIs("sign;across 1 0 0;", -8, 16);
        alphabetIs("sign;down 0 1 5;", -8, 14);
        alphabetIs("sign;down 0 1 4;", 1, -1);
        alphabetIs("sign;clean 0 99999999999999999999;", -8, 13);
        alphabetIs("turned 0;", -8, 7);
        alphabetIs("sign;mirror 1;", -8, 12);
        alphabetIs("sign;family 4 0;", -8, 12);
        alphabetIs("sign;family 3 1;", -8, 14);
        alphabetIs("sign;word ;", -9, 10);
        alphabetIs("sign;word b;", -8, 10);
        alphabetIs("sign;word aaaaaab;", -8, 10);
        alphabetIs("sign;word aaaaaa;", 1, -1);
        alphabetIs("sign;worda;", -9, 5);
        alphabetIs("sign;word z;", -8, 10);
        alphabetIs("sign;word az;", -8, 10);
        alphabetIs("sign;word a1;", -9, 11);
        alphabetIs("sign;clean 6 0;", -8, 11);
        alphabetIs("sign;clean 0 5;", -8, 13);
        alphabetIs("sign;clean 5 4;", 1, -1);
        alphabetIs("board 7;", -8, 6);
        alphabetIs("board 6;", -9, 7);
        alphabetIs("sign;across 9;", -8, 12);
        alphabetIs("sign;across 0 9;", -8, 14);
        alphabetIs("sign;clean 9;", -8, 11);
        alphabetIs("sign;family 9;", -8, 12);
        alphabetIs("board 6 5;sign;across 5 4 1;down 5 4 1;", 1, -1);
        alphabetIs("board 2 2;sign;across 2 0 1;", -8, 22);
        alphabetIs("board 1 2;", -8, 6);
        alphabetIs("board 7 2;", -8, 6);
        alphabetIs("board 2 6;", -8, 8);
        alphabetIs("board 6 1;", -8, 8);
        alphabetIs("sign;board 2 2;", -6, 5);
        alphabetIs("board 2 2; board 2 2;", -6, 11);
        alphabetIs("sign;".repeat(12), 12, -1);
        alphabetIs("sign;".repeat(13), -7, 60);
        alphabetIs("sign;".repeat(12) + "turned 99;", -7, 60);
        alphabetIs("sign;" + "word a;".repeat(8), 1, -1);
        alphabetIs("sign;" + "word a;".repeat(9), -7, 61);
        alphabetIs("sign;".repeat(12) + "word a;".repeat(8) + "family0 0;".repeat(38), 12, -1);
        String sixty = "sign;" + "word a;".repeat(8) + "sign;".repeat(11) + "clean0 0;".repeat(40);
        alphabetIs(sixty, 12, -1);
        alphabetIs(sixty + "clean0 0;", -7, sixty.length());
        alphabetIs(sixty + "board", -7, sixty.length());
        alphabetIs(sixty + "boards", -9, sixty.length());
        alphabetIs(sixty + " ", 12, -1);
        alphabetStaysOrGoes();
    }

    private static void alphabetStaysOrGoes() {
        CoveredSigns x = Texts.with(FOUR, "side 0 1 or side 1 1");
        x.dirt(2);
        x.part(0, 0);
        x.stand(0, 0, 1);
        x.image();
        due("fault", Texts.alphabet(x, "board 2 2;sign;sing;"), -9);
        due("signs stay", x.told(0), 4);
        due("width stays", x.told(1), 3);
        due("words stay", x.told(3), 3);
        due("covers stay", x.told(4), 2);
        due("d stays", x.told(5), 2);
        due("parts stay", x.count(0), 1);
        due("standing ones stay", x.count(1), 1);
        due("images stay", x.count(2), 1);
        due("the tape goes", x.count(3), 0);
        due("paint stays", x.sign(1), 9);
        Texts.feed(x, "sign;");
        Texts.dueThrow("too many bytes", ILLEGAL, () -> x.alphabet(21));
        Texts.dueThrow("fewer than none", ILLEGAL, () -> x.alphabet(-1));
        due("the tape stays", x.count(3), 20);
        due("the fault stays", x.fault(), 15);
        due("a shorter text", x.alphabet(5), 1);
        due("d goes", x.told(5), 0);
        due("covers go", x.told(4), 1);
        due("any 0", x.cover(0), 0);
        due("words go", x.told(3), 0);
        due("the board goes", x.told(1) * 10 + x.told(2), 65);
        for (int what = 0; what < 4; what++) {
            due("count " + what, x.count(what), 0);
        }
    }

    private static void ruleIs(String text, int answer, int fault) {
        CoveredSigns x = Texts.with("board 4 3;", "");
        due("rule " + text, Texts.rule(x, text), answer);
        due("fault of " + text, x.fault(), fault);
        due("tape of " + text, x.count(3), 0);
    }

    private static void rule() {
        ruleIs("any 0", 1, -1);
        ruleIs("any1", 12, -1);
        ruleIs(" any  2 ", 66, -1);
        ruleIs("any 3", 220, -1);
        ruleIs("", -9, 0);
        ruleIs("  ", -9, 2);
        ruleIs("any", -9, 3);
        ruleIs("any 4", -8, 4);
        ruleIs("sides 0 1", -9, 0);
        ruleIs("side 4 1", -8, 5);
        ruleIs("side 0 4", 1, -1);
        ruleIs("side 1 5", -8, 7);
        ruleIs("side 2 4", -8, 7);
        ruleIs("side 3 3", 1, -1);
        ruleIs("side 3 0", -8, 7);
        ruleIs("corner 4 1", -8, 7);
        ruleIs("corner 3 4", -8, 9);
        ruleIs("corner 3 3", 1, -1);
        ruleIs("front 3 2 1 1", 1, -1);
        ruleIs("front 4 2 1 1", -8, 6);
        ruleIs("front 3 3 1 1", -8, 8);
        ruleIs("front 3 2 2 1", -8, 10);
        ruleIs("front 3 2 1 2", -8, 12);
        ruleIs("front 9", -8, 6);
        ruleIs("front 0 9", -8, 8);
        ruleIs("front 0 0 9", -8, 10);
        ruleIs("side 9", -8, 5);
        ruleIs("corner 9", -8, 7);
        ruleIs("fog 2", -8, 4);
        ruleIs("fog 0 fog 1", -9, 6);
        ruleIs("fog 0 or", -9, 8);
        ruleIs("fog 0 ora fog 1", -9, 6);
        ruleIs("fog 0 and fog 1", 1, -1);
        ruleIs("fog 0 or fog 1 and fog 0", 2, -1);
        ruleIs("[fog 0 or fog 1] and any 1", 14, -1);
        ruleIs("not any 1 and any 0", 12, -1);
        ruleIs("[fog 0", -9, 6);
        ruleIs("[fog 0]]", -9, 7);
        ruleIs("[".repeat(6) + "any 0" + "]".repeat(6), 1, -1);
        ruleIs("[".repeat(7), -7, 6);
        ruleIs("not ".repeat(6) + "any 1", 12, -1);
        ruleIs("not ".repeat(7) + "any 1", -7, 24);
        ruleIs("not [not [not [any 1]]] and not [not [not [any 1]]]", 13, -1);
        ruleIs("[[[any 0]]] and [[[[[[any 0]]]]]]", 1, -1);
        ruleIs("any 3 and any 3", -6, 15);
        ruleIs("any 3 or any 2 or any 1 or any 0", 299, -1);
        ruleIs("any 3 or not any 3  ", 440, -1);
        ruleIs("any 3 or not any 3 or any 2", -6, 27);
        ruleIs("[any 3 and any 3] and side 0 4", -6, 30);
        ruleIs("any 3 and any 3 and side 0 4 x", -9, 29);
        CoveredSigns x = new CoveredSigns();
        due("a part of too many", Texts.rule(x, "any 3 and side 0 6"), -6);
        due("at the length", x.fault(), 18);
        ruleStaysOrGoes();
    }

    private static void ruleStaysOrGoes() {
        CoveredSigns x = Texts.with(FOUR, "fog 0 or fog 1");
        x.dirt(1);
        x.part(0, 0);
        x.stand(0, 0, 1);
        x.image();
        due("fault", Texts.rule(x, "fog 2"), -8);
        due("covers stay", x.told(4), 2);
        due("parts stay", x.count(0), 1);
        Texts.feed(x, "side 0 1 or side 0 1");
        Texts.dueThrow("too many bytes", ILLEGAL, () -> x.rule(21));
        Texts.dueThrow("fewer than none", ILLEGAL, () -> x.rule(Integer.MIN_VALUE));
        due("the tape stays", x.count(3), 20);
        due("rule", x.rule(20), 1);
        due("parts go", x.count(0), 0);
        due("d stays", x.told(5), 1);
        due("standing ones stay", x.count(1), 1);
        due("images stay", x.count(2), 1);
        due("signs stay", x.told(0), 4);
    }

    private static void fault() {
        CoveredSigns x = new CoveredSigns();
        due("at first", x.fault(), -1);
        Texts.alphabet(x, "sign; x");
        due("of an alphabet", x.fault(), 6);
        Texts.rule(x, "any 9");
        due("of a rule", x.fault(), 4);
        Texts.rule(x, "any 1");
        due("without", x.fault(), -1);
    }

    private static void told() {
        CoveredSigns x = Texts.with(FOUR, "fog 0 or fog 1");
        x.dirt(3);
        int[] told = {4, 3, 2, 3, 2, 3};
        for (int what = 0; what < 6; what++) {
            due("told " + what, x.told(what), told[what]);
        }
        Texts.dueThrow("told 6", ILLEGAL, () -> x.told(6));
        Texts.dueThrow("told -1", ILLEGAL, () -> x.told(-1));
    }

    private static void sign() {
        CoveredSigns x = Texts.with(FOUR + "sign;across 1 1 2;clean 2 1;down 0 0 2;turned 4;mirror 5;across 1 0 1;", "");
        int[] paint = {7, 9, 36, 36, 16 + 9, 2 + 32 + 4, 2 + 8 + 1};
        for (int sign = 0; sign < paint.length; sign++) {
            due("sign " + sign, x.sign(sign), paint[sign]);
        }
        Texts.dueThrow("sign 7", NO_ELEMENT, () -> x.sign(7));
        Texts.dueThrow("sign -1", NO_ELEMENT, () -> x.sign(-1));
        CoveredSigns y = Texts.with("board 6 5;sign;across 0 4 6;down 5 0 5;turned 0;", "");
        due("the last cells", y.sign(0), 0x3f << 24 | 1 << 5 | 1 << 11 | 1 << 17 | 1 << 23);
        due("half turned", y.sign(1), 0x3f | 1 << 24 | 1 << 18 | 1 << 12 | 1 << 6);
    }

    private static void family() {
        CoveredSigns x = Texts.with(FOUR + "family 3 2;family 2 2;", "");
        due("the last counts", x.family(1), 0);
        due("of 2", x.family(2), 2);
        due("without", x.family(3), -1);
        Texts.dueThrow("family 4", NO_ELEMENT, () -> x.family(4));
    }

    private static void word() {
        CoveredSigns x = Texts.with(FOUR, "");
        int[] letters = {2, 3, 0, 1, -1, -1};
        for (int place = 0; place < 6; place++) {
            due("word 2 " + place, x.word(2, place), letters[place]);
        }
        Texts.dueThrow("no word", NO_INDEX, () -> x.word(3, 0));
        Texts.dueThrow("no word, no place", NO_INDEX, () -> x.word(-1, 9));
        Texts.dueThrow("place 6", ILLEGAL, () -> x.word(0, 6));
        Texts.dueThrow("place -1", ILLEGAL, () -> x.word(0, -1));
    }

    private static void coversAre(String rule, int... cells) {
        CoveredSigns x = Texts.with("board 3 2;", rule);
        due("covers of " + rule, x.told(4), cells.length);
        for (int cover = 0; cover < cells.length; cover++) {
            due("cover " + cover + " of " + rule, x.cover(cover), cells[cover]);
        }
        Texts.dueThrow("cover behind", NO_INDEX, () -> x.cover(cells.length));
        Texts.dueThrow("cover -1", NO_INDEX, () -> x.cover(-1));
    }

    private static void cover() {
        coversAre("side 0 2", 27);
        coversAre("side 1 1", 36);
        coversAre("side 2 1", 7);
        coversAre("side 3 1", 56);
        coversAre("side 3 2", 63);
        coversAre("corner 0 1", 1);
        coversAre("corner 1 2", 54);
        coversAre("corner 2 1", 8);
        coversAre("corner 3 1", 32);
        coversAre("front 1 0 2 1", 6);
        coversAre("fog 0", 1 + 4 + 16);
        coversAre("fog 1", 2 + 8 + 32);
        coversAre("any 1", 1, 2, 4, 8, 16, 32);
        coversAre("not any 1", 31, 47, 55, 59, 61, 62);
        coversAre("side 2 1 or corner 3 1 or any 0 or corner 0 1 or side 0 1", 0, 1, 32, 9, 7);
        coversAre("any 1 and any 1", 1, 2, 4, 8, 16, 32, 3, 5, 6, 9, 10, 12, 17, 18, 20, 24, 33, 34, 36, 40, 48);
        coversAre("not side 0 1 and fog 0", 1 + 54);
        coversAre("not [side 0 1 and fog 0]", 2 + 32);
    }

    private static void dirt() {
        CoveredSigns x = Texts.with(FOUR, "");
        due("first", x.dirt(3), 0);
        Texts.dueThrow("dirt 4", ILLEGAL, () -> x.dirt(4));
        Texts.dueThrow("dirt -1", ILLEGAL, () -> x.dirt(-1));
        due("then", x.dirt(0), 3);
        due("last", x.told(5), 0);
    }

    private static void confused() {
        CoveredSigns x = Texts.with(FOUR, "any 0 or side 0 2 or side 1 2");
        due("like", x.confused(2, 3), 0);
        due("by none", x.confused(0, 1), -1);
        due("either way", x.confused(1, 0), -1);
        x.dirt(1);
        // 7 and 9 are unlike in cells 1, 2, 3: behind the left columns in cell 2 alone
        due("by the first that leaves two", x.confused(0, 1), 1);
        Texts.dueThrow("one", ILLEGAL, () -> x.confused(1, 1));
        Texts.dueThrow("none such", NO_ELEMENT, () -> x.confused(4, 4));
        Texts.dueThrow("no other", NO_ELEMENT, () -> x.confused(0, -1));
        CoveredSigns y = Texts.with("board 2 2;sign;across 0 0 2;sign;across 0 1 2;", "any 1 or any 2 or any 3");
        due("four cells, three hidden", y.confused(0, 1), -1);
        y.dirt(1);
        due("two hidden, two seen", y.confused(0, 1), 4);
        y.dirt(2);
        due("all", y.confused(0, 1), 0);
    }

    private static void confusions() {
        CoveredSigns x = Texts.with(FOUR, "");
        due("like ones", x.confusions(), 1);
        Texts.rule(x, "side 3 1 or side 1 2");
        // 0 and 1 are not: above are seen cells 1 and 2; left of all is seen cell 3
        due("by some", x.confusions(), 1);
        x.dirt(1);
        due("with dirt", x.confusions(), 6);
        x.dirt(0);
        Texts.rule(x, "side 0 3");
        due("all hidden", x.confusions(), 6);
    }

    private static void blind() {
        CoveredSigns x = Texts.with(FOUR, "any 1");
        due("first", x.blind(0), 0);
        due("pairs", x.blind(1), 1);
        Texts.rule(x, "corner 0 1 or side 0 1 or side 3 1 or front 0 0 3 2");
        due("the last", x.blind(0), 3);
        due("all pairs", x.blind(1), 6);
        Texts.dueThrow("what 2", ILLEGAL, () -> x.blind(2));
        Texts.dueThrow("what -1", ILLEGAL, () -> x.blind(-1));
        CoveredSigns y = Texts.with("board 2 2;sign;sign;across 0 0 1;", "corner 3 1");
        due("of none the first", y.blind(0), 0);
        due("no pair", y.blind(1), 0);
    }

    private static void may() {
        CoveredSigns x = Texts.with(FOUR, "any 0 or side 0 2");
        due("as it is", x.may(0, 36), 12);
        due("none", x.may(0, 37), 0);
        due("hidden is no matter", x.may(1, 4 + 1 + 16), 1);
        x.dirt(1);
        due("one cell wrong", x.may(0, 37), 12);
        due("one seen wrong", x.may(1, 0), 1 + 2);
        Texts.dueThrow("no cover", NO_INDEX, () -> x.may(2, 64));
        Texts.dueThrow("beside the board", ILLEGAL, () -> x.may(0, 64));
        Texts.dueThrow("negative", ILLEGAL, () -> x.may(0, -1));
    }

    private static void read() {
        CoveredSigns x = Texts.with(FOUR, "any 0 or side 0 2");
        due("one", x.read(0, 9), 1);
        due("several", x.read(0, 36), -1);
        due("none", x.read(0, 0), -1);
        due("covered", x.read(1, 4), 0);
        Texts.dueThrow("no cover", NO_INDEX, () -> x.read(-1, 0));
        Texts.dueThrow("beside the board", ILLEGAL, () -> x.read(1, Integer.MIN_VALUE));
    }

    private static void nearest() {
        CoveredSigns x = Texts.with(FOUR, "any 0 or side 0 2 or side 0 3");
        due("like", x.nearest(0, 36), 2);
        due("near", x.nearest(0, 3), 0);
        due("the first", x.nearest(1, 32), 1);
        due("nothing seen", x.nearest(2, 63), 0);
        Texts.dueThrow("no cover", NO_INDEX, () -> x.nearest(3, 0));
        Texts.dueThrow("beside the board", ILLEGAL, () -> x.nearest(0, 64));
        due("without signs", new CoveredSigns().nearest(0, 5), -1);
        due("all thirty unlike", Texts.with(FULL, "").nearest(0, 0), 0);
    }

    private static void part() {
        CoveredSigns x = Texts.with(FOUR, "side 0 2");
        for (int i = 1; i <= 6; i++) {
            due("part " + i, x.part(0, 9), i);
        }
        due("a seventh", x.part(0, 9), -1);
        Texts.dueThrow("no cover, though full", NO_INDEX, () -> x.part(1, 9));
        Texts.dueThrow("beside the board, though full", ILLEGAL, () -> x.part(0, 64));
        due("six", x.count(0), 6);
        CoveredSigns y = Texts.with(FOUR + "word b;", "side 0 3");
        y.part(0, 63);
        y.image();
        due("all hidden", y.words(), 8);
        Texts.rule(y, "any 0");
        due("the rule's end", y.words(), 0);
        y.restore();
        due("the cover of its time", y.words(), 8);
    }

    private static void forget() {
        CoveredSigns x = Texts.with(FOUR, "");
        due("nothing", x.forget(), 0);
        x.part(0, 7);
        x.part(0, 7);
        due("two", x.forget(), 2);
        due("gone", x.count(0), 0);
        due("words", x.words(), 0);
    }

    private static void words() {
        CoveredSigns x = Texts.with(FOUR, "any 0 or side 0 2");
        due("no parts", x.words(), 0);
        x.part(0, 7);
        due("one part", x.words(), 0);
        x.part(1, 0);
        due("ab", x.words(), 1);
        x.dirt(1);
        due("with dirt", x.words(), 3);
        x.part(0, 7);
        due("three parts", x.words(), 0);
    }

    private static void sure() {
        CoveredSigns x = Texts.with(FOUR, "any 0 or side 0 3");
        x.part(0, 7);
        x.part(1, 0);
        due("ab or aa", x.words(), 3);
        due("a", x.sure(0), 0);
        due("a or b", x.sure(1), -1);
        due("behind", x.sure(2), -1);
        due("ahead", x.sure(-1), -1);
        x.forget();
        x.part(0, 7);
        x.part(0, 9);
        due("b", x.sure(1), 1);
        x.part(0, 9);
        due("no word", x.sure(0), -1);
    }

    private static void least() {
        CoveredSigns x = Texts.with("board 3 2;sign;across 0 0 3;sign;down 0 0 2;sign;across 0 0 1;", "");
        // 7, 9, 1: 0 is unlike 1 in 2, 4, 8; unlike 2 in 2, 4. 2 is unlike 0 in 2, 4, unlike 1 in 8
        due("one cell", x.least(0, 0), 1);
        due("the least", x.least(0, 1), 2);
        due("two cells", x.least(2, 0), 2);
        due("the least of them", x.least(2, 1), 10);
        due("8", x.least(1, 1), 8);
        x.dirt(1);
        due("three of one, but two of the other", x.least(0, 0), -1);
        due("no bits", x.least(0, 1), -1);
        Texts.dueThrow("no sign", NO_ELEMENT, () -> x.least(3, 5));
        Texts.dueThrow("what 2", ILLEGAL, () -> x.least(0, 2));
        CoveredSigns alone = Texts.with("sign;", "");
        alone.dirt(3);
        due("alone", alone.least(0, 0), 0);
        due("no cells", alone.least(0, 1), 0);
        CoveredSigns far = Texts.with("sign;across 0 0 6;sign;across 0 4 6;", "");
        far.dirt(2);
        due("five", far.least(0, 0), 5);
        due("five bits", far.least(0, 1), 31);
        far.dirt(3);
        due("seven would be needed", far.least(0, 0), -1);
    }

    private static void strokesAre(String strokes, int want) {
        due("strokes of " + strokes, Texts.with("sign;" + strokes, "").strokes(0), want);
    }

    private static void strokes() {
        strokesAre("", 0);
        strokesAre("across 0 0 1;", 1);
        strokesAre("across 0 0 6;down 0 0 5;", 2);
        strokesAre("across 0 0 3;across 0 1 3;", 2);
        strokesAre("across 0 0 2;across 0 1 2;across 0 2 2;", 2);
        strokesAre("across 0 0 1;across 1 1 1;across 2 2 1;across 3 3 1;across 4 4 1;", 5);
        strokesAre("across 0 0 6;clean 2 0;", 2);
        strokesAre("across 0 0 6;across 0 2 6;across 0 4 6;down 0 0 5;", 4);
        CoveredSigns x = Texts.with("board 2 2;sign;", "");
        Texts.dueThrow("no sign", NO_ELEMENT, () -> x.strokes(1));
    }

    private static void akin() {
        CoveredSigns x = Texts.with("board 3 2;sign;sign;across 0 0 2;sign;across 1 1 2;sign;across 0 0 2;across 1 1 2;"
                + "family 1 0;family 1 1;family 1 2;family 2 3;", "");
        due("the most", x.akin(1, 0), 102);
        due("how many", x.akin(1, 1), 4);
        due("one alone", x.akin(2, 0), -1);
        due("one alone, how many", x.akin(2, 1), -1);
        due("none", x.akin(0, 0), -1);
        CoveredSigns y = Texts.with("sign;sign;sign;family 3 0;family 3 1;family 3 2;", "");
        due("the first of like pairs", y.akin(3, 0), 1);
        due("no cells", y.akin(3, 1), 0);
        Texts.dueThrow("family 4", ILLEGAL, () -> x.akin(4, 0));
        Texts.dueThrow("family -1", ILLEGAL, () -> x.akin(-1, 0));
        Texts.dueThrow("what 2", ILLEGAL, () -> x.akin(0, 2));
    }

    private static void strangers() {
        String signs = "board 3 2;sign;sign;across 0 0 2;sign;across 0 0 1;";
        due("without families", Texts.with(signs, "").strangers(), 0);
        due("without others of its own", Texts.with(signs + "family 0 0;", "").strangers(), 0);
        due("one of none is nearer", Texts.with(signs + "family 0 0;family 0 1;", "").strangers(), 3);
        due("one of another", Texts.with(signs + "family 0 0;family 0 1;family 1 2;", "").strangers(), 3);
        due("one of none is no stranger", Texts.with(signs + "family 0 2;", "").strangers(), 0);
        due("as near is not nearer", Texts.with(signs + "family 0 0;family 0 2;", "").strangers(), 0);
        due("thirty cells away, with no other sign", Texts.with(FULL + "sign;family 0 0;family 0 1;", "").strangers(), 0);
        due("thirty cells away, another nearer",
                Texts.with(FULL + "sign;sign;across 0 0 1;family 0 0;family 0 1;", "").strangers(), 3);
        due("nearer than all of its own",
                Texts.with(signs + "sign;across 0 0 1;family 0 0;family 0 1;family 0 2;", "").strangers(), 4);
    }

    private static void changedIs(CoveredSigns x, int count, int first, int second) {
        due("how many", x.changed(0), count);
        due("first", x.changed(1), first);
        due("second", x.changed(2), second);
    }

    private static void changed() {
        CoveredSigns x = Texts.with(FOUR, "");
        changedIs(x, 1, 200, -1);
        Texts.rule(x, "side 0 1");
        changedIs(x, 1, 201, -1);
        due("signs stay", x.sign(2), 36);
        Texts.dueThrow("what 3", ILLEGAL, () -> x.changed(3));
        Texts.dueThrow("what -1", ILLEGAL, () -> x.changed(-1));
        changedIs(Texts.with("board 2 2;sign;sign;across 0 0 2;", ""), 0, -1, -1);
        changedIs(Texts.with("board 2 2;sign;sign;sign;", ""), 2, 0, 101);
        changedIs(Texts.with("board 2 2;sign;sign;", "any 1"), 2, 0, 1);
        changedIs(Texts.with("board 2 2;sign;sign;", "corner 0 1 or corner 1 1"), 1, 2, -1);
        changedIs(Texts.with("board 2 2;sign;sign;sign;sign;", ""), -1, -1, -1);
        changedIs(Texts.with("board 2 2;sign;sign;across 0 0 2;sign;sign;across 0 0 2;", ""), 2, 0, 100);
        changedIs(Texts.with("board 2 2;sign;sign;", "side 0 2"), -1, -1, -1);
        changedIs(new CoveredSigns(), 0, -1, -1);
    }

    private static void bound() {
        due("one pair", Texts.with(FOUR, "").bound(), 1);
        due("no sign in two", Texts.with("sign;sign;sign;", "").bound(), 1);
        due("six pairs", Texts.with("sign;".repeat(12), "").bound(), 6);
        due("five pairs", Texts.with("sign;".repeat(11), "").bound(), 5);
        due("clear", Texts.with("sign;sign;across 0 0 1;", "").bound(), 0);
        // paints 0, 1, 3, 2 with any 1: a ring of four, and 7 far from 0 alone on 3
        due("a path", Texts.with("board 3 2;sign;sign;across 0 0 1;sign;across 0 0 2;sign;across 0 0 3;", "any 1").bound(), 2);
        due("a star", Texts.with("board 3 2;sign;sign;across 0 0 1;sign;across 1 0 1;sign;across 2 0 1;", "any 1").bound(), 1);
    }

    private static void steps() {
        CoveredSigns x = Texts.with(FOUR, "");
        due("one", x.steps(0), 1);
        due("none left", x.steps(1), 0);
        due("signs stay", x.sign(2), 36);
        CoveredSigns three = Texts.with("board 2 2;sign;sign;sign;", "");
        due("two", three.steps(0), 2);
        due("clear then", three.steps(1), 0);
        CoveredSigns hidden = Texts.with("board 2 2;sign;sign;sign;", "side 0 2");
        due("no cell helps", hidden.steps(0), 0);
        due("all pairs left", hidden.steps(1), 3);
        CoveredSigns stuck = Texts.with("board 2 2;sign;sign;", "any 1");
        due("one cell alone does not help", stuck.steps(0), 0);
        due("one pair left", stuck.steps(1), 1);
        due("changed does", stuck.changed(0), 2);
        due("clear", Texts.with("sign;", "").steps(0), 0);
        Texts.dueThrow("what 2", ILLEGAL, () -> x.steps(2));
        Texts.dueThrow("what -1", ILLEGAL, () -> x.steps(-1));
        CoveredSigns twelve = Texts.with("sign;".repeat(12), "");
        due("eleven", twelve.steps(0), 11);
        due("of twelve none left", twelve.steps(1), 0);
    }

    private static void most() {
        due("all paints", Texts.with("board 2 2;", "").most(), 16);
        due("of six cells", Texts.with("board 2 3;", "").most(), 64);
        due("distance two", Texts.with("board 3 2;", "any 1").most(), 32);
        due("distance three", Texts.with("board 3 2;", "any 2").most(), 8);
        due("distance four", Texts.with("board 3 2;", "any 3").most(), 4);
        due("a column", Texts.with("board 3 2;", "side 0 1").most(), 16);
        due("two columns, but one at a time", Texts.with("board 3 2;", "side 0 1 or side 1 1").most(), 16);
        due("all hidden", Texts.with("board 3 2;", "side 0 3").most(), 1);
        CoveredSigns dirty = Texts.with("board 3 2;", "");
        dirty.dirt(1);
        due("one cell wrong", dirty.most(), 8);
        dirty.dirt(2);
        due("two cells wrong", dirty.most(), 2);
        dirty.dirt(3);
        due("three cells wrong", dirty.most(), 1);
        due("too many cells", Texts.with("board 4 2;", "").most(), -1);
    }

    private static void taken() {
        due("all paints", Texts.with("board 4 3;", "").taken(), 4096);
        due("distance two", Texts.with("board 4 3;", "any 1").taken(), 2048);
        due("distance three", Texts.with("board 4 3;", "any 2").taken(), 256);
        due("distance four", Texts.with("board 6 2;", "any 3").taken(), 128);
        due("all hidden", Texts.with("board 6 2;", "side 0 6").taken(), 1);
        CoveredSigns dirty = Texts.with("board 3 3;", "any 1");
        dirty.dirt(1);
        due("distance four of nine", dirty.taken(), 16);
        due("too many cells", Texts.with("board 5 3;", "").taken(), -1);
    }

    private static void stand() {
        CoveredSigns x = Texts.with(FOUR, "");
        for (int i = 1; i <= 8; i++) {
            due("stand " + i, x.stand(i % 4, i == 1 ? 0 : 99, i == 1 ? 1 : 99), i);
        }
        due("a ninth", x.stand(0, 0, 1), -1);
        due("eight", x.count(1), 8);
        Texts.dueThrow("no sign", NO_ELEMENT, () -> x.stand(4, 0, 0));
        Texts.dueThrow("x 100", ILLEGAL, () -> x.stand(0, 100, 1));
        Texts.dueThrow("x -1", ILLEGAL, () -> x.stand(0, -1, 1));
        Texts.dueThrow("y 0", ILLEGAL, () -> x.stand(0, 0, 0));
        Texts.dueThrow("y 100", ILLEGAL, () -> x.stand(0, 0, 100));
    }

    private static void leave() {
        CoveredSigns x = Texts.with(FOUR, "");
        due("none", x.leave(), 0);
        x.stand(0, 0, 10);
        x.stand(0, 0, 5);
        due("behind", x.seen(0, 0, false), 0);
        due("two", x.leave(), 2);
        due("gone", x.count(1), 0);
        x.stand(0, 0, 10);
        due("free", x.seen(0, 0, false), 7);
    }

    /** Sign 0 at y 10, sign 1 at y 5, both with their left ends at x 0. */
    private static CoveredSigns oneBehindTheOther() {
        CoveredSigns x = Texts.with(FOUR, "");
        x.stand(0, 0, 10);
        x.stand(1, 0, 5);
        return x;
    }

    private static void seen() {
        CoveredSigns x = oneBehindTheOther();
        // from s the ways to 0.5, 1.5, 2.5 are at y 5 half way between: hidden up to 3
        int[] from = {0, 0, 0, 0, 4, 6, 7};
        for (int s = 0; s < from.length; s++) {
            due("seen from " + s, x.seen(0, s, false), from[s]);
            due("seen by " + s, x.seen(0, s, true), from[s]);
            due("nearer one from " + s, x.seen(1, s, false), 7);
        }
        CoveredSigns y = Texts.with(FOUR, "");
        y.stand(0, 10, 20);
        y.stand(0, 10, 20);
        y.stand(0, 10, 10);
        // from 10 the way to the left middle is at y 10 at 10.25; from 9 at 9.75, ahead of its left end
        due("like far ones hide nothing", y.seen(2, 10, false), 7);
        due("from 10", y.seen(0, 10, false), 0);
        due("from 9", y.seen(0, 9, false), 1);
        due("by 9", y.seen(0, 9, true), 7);
        due("by 99", y.seen(1, 99, true), 7);
        CoveredSigns ends = Texts.with("board 2 2;sign;", "");
        ends.stand(0, 1, 3);
        ends.stand(0, 1, 1);
        // the way from 0 to 1.5 goes at y 1 through 0.5, from 0 to 2.5 through 2.5 / 3
        due("not at its end", ends.seen(0, 0, false), 3);
        // from 3 to 1.5 it is at 2.5, from 3 to 2.5 at 2.83; from 4 to 1.5 at 3.17
        due("within", ends.seen(0, 3, false), 0);
        CoveredSigns exact = Texts.with("board 2 2;sign;", "");
        exact.stand(0, 3, 2);
        exact.stand(0, 2, 1);
        // from 1 to 3.5 it is at 2.25; from 0 to 4.5 at 2.25; from 4 to 4.5 at 4.25; to 3.5 at 3.75
        due("from 4", exact.seen(0, 4, false), 2);
        CoveredSigns end = Texts.with("board 2 2;sign;", "");
        end.stand(0, 0, 4);
        end.stand(0, 4, 2);
        end.stand(0, 9, 2);
        // from 7 to 1.5 at y 2 it is at 4.25; from 7 to 0.5 at 3.75
        due("from 7", end.seen(0, 7, false), 1);
        CoveredSigns touch = Texts.with("board 2 2;sign;", "");
        touch.stand(0, 0, 5);
        touch.stand(0, 2, 2);
        // from 3 to 0.5 at y 2: 3 - 2.5 * 2 / 5 = 2, its very end
        due("at its end", touch.seen(0, 3, false), 0);
        Texts.dueThrow("no such one", NO_INDEX, () -> x.seen(2, 100, false));
        Texts.dueThrow("s 100", ILLEGAL, () -> x.seen(0, 100, false));
        Texts.dueThrow("s -1", ILLEGAL, () -> x.seen(0, -1, true));
    }

    private static void guess() {
        CoveredSigns x = oneBehindTheOther();
        due("nothing seen", x.guess(0, 0, false), 15);
        // the right column of sign 0 is paint above alone
        due("one column", x.guess(0, 4, false), 1);
        due("all seen", x.guess(1, 0, false), 2);
        x.dirt(1);
        due("with dirt", x.guess(0, 4, false), 15);
        due("by", x.guess(0, 3, true), 15);
        Texts.dueThrow("no such one", NO_INDEX, () -> x.guess(-1, 0, false));
        Texts.dueThrow("s 100", ILLEGAL, () -> x.guess(0, 100, true));
    }

    private static void known() {
        CoveredSigns x = oneBehindTheOther();
        due("the far one", x.known(0, false), 4);
        due("the near one", x.known(1, false), 0);
        due("by", x.known(0, true), 4);
        x.stand(2, 50, 3);
        due("like another", x.known(2, false), -1);
        x.dirt(1);
        due("with dirt", x.known(0, false), 5);
        Texts.dueThrow("no such one", NO_INDEX, () -> x.known(3, false));
        CoveredSigns y = Texts.with("board 3 2;sign;across 0 0 3;sign;across 0 0 2;sign;across 1 0 2;", "");
        y.stand(0, 1, 99);
        y.stand(0, 0, 1);
        due("both ends must be seen, from", y.known(0, false), 4);
    }

    private static void all() {
        CoveredSigns x = oneBehindTheOther();
        due("from", x.all(false), 4);
        due("by", x.all(true), 4);
        x.stand(2, 50, 3);
        due("one never", x.all(true), -1);
        x.leave();
        due("without", x.all(false), 0);
        CoveredSigns y = Texts.with("board 2 2;sign;across 0 0 2;sign;across 0 1 2;", "");
        // board 0 is hidden at first, board 2 later on
        y.stand(0, 0, 40);
        y.stand(1, 0, 20);
        y.stand(0, 4, 20);
        due("0 alone", y.known(0, false), 3);
        due("all of them", y.all(false), 3);
    }

    private static void voyage() {
        CoveredSigns x = oneBehindTheOther();
        due("ab, as the near one is no a", x.voyage(false), 0);
        due("ab, by", x.voyage(true), 0);
        x.stand(0, 50, 3);
        due("aba is not told", x.voyage(false), -1);
        x.leave();
        due("no word", x.voyage(false), -1);
        CoveredSigns twice = Texts.with("board 2 2;sign;across 0 0 2;sign;across 0 1 2;word ab;word ab;word a;word bbb;", "");
        twice.stand(0, 0, 40);
        twice.stand(1, 0, 20);
        due("told twice is one, though the first is hidden", twice.voyage(false), 0);
        due("not known alone", twice.known(0, false), 3);
        CoveredSigns other = Texts.with("board 2 2;sign;across 0 0 2;sign;across 0 1 2;word ab;word bb;", "");
        other.stand(0, 0, 40);
        other.stand(1, 0, 20);
        due("bb too till it is seen", other.voyage(false), 3);
        other.dirt(3);
        due("with dirt, when all is seen", other.voyage(true), 4);
        CoveredSigns long7 = Texts.with("sign;word aaaaaa;", "");
        for (int i = 0; i < 6; i++) {
            long7.stand(0, 10 * i, 5);
        }
        due("six", long7.voyage(false), 0);
        long7.stand(0, 70, 5);
        due("seven", long7.voyage(false), -1);
    }

    private static void image() {
        CoveredSigns x = Texts.with(FOUR, "");
        due("one", x.image(), 1);
        due("two", x.image(), 2);
        due("three", x.image(), 3);
        due("no fourth", x.image(), -1);
        due("three stay", x.count(2), 3);
    }

    private static void restore() {
        CoveredSigns x = Texts.with(FOUR, "side 0 1");
        due("none", x.restore(), -1);
        x.dirt(2);
        x.part(0, 9);
        x.stand(0, 0, 10);
        x.image();
        x.dirt(0);
        x.forget();
        x.stand(1, 0, 5);
        x.image();
        x.leave();
        x.dirt(3);
        due("known before", x.confusions(), 6);
        Texts.rule(x, "any 0");
        due("one left", x.restore(), 1);
        due("d 0", x.told(5), 0);
        due("pairs with d 0", x.confusions(), 1);
        due("two stand", x.count(1), 2);
        due("the far one is hidden", x.seen(0, 0, false), 0);
        due("none left", x.restore(), 0);
        due("d 2", x.told(5), 2);
        due("one stands", x.count(1), 1);
        due("it is free", x.seen(0, 0, false), 7);
        due("one part", x.count(0), 1);
        due("the rule is as told last", x.cover(0), 0);
        due("nothing more", x.restore(), -1);
        threeImages();
    }

    /** Each image holds its own things, and answers that hang on d are told anew. */
    private static void threeImages() {
        CoveredSigns x = Texts.with(FOUR, "");
        for (int i = 0; i < 3; i++) {
            x.dirt(i);
            x.part(0, i);
            x.stand(i, 10 * i, 5);
            x.image();
        }
        x.dirt(3);
        x.forget();
        x.leave();
        due("with d 3", x.confusions(), 6);
        int[] pairs = {1, 1, 6};
        for (int i = 2; i >= 0; i--) {
            due("left", x.restore(), i);
            due("d", x.told(5), i);
            due("parts", x.count(0), i + 1);
            due("standing ones", x.count(1), i + 1);
            due("the last of them", x.guess(i, 0, false) >> i & 1, 1);
            due("pairs", x.confusions(), pairs[i]);
            due("blind", x.blind(1), pairs[i]);
            due("bound", x.bound(), i < 2 ? 1 : 2);
        }
    }

    private static void count() {
        CoveredSigns x = Texts.with(FOUR, "");
        x.part(0, 0);
        x.part(0, 0);
        x.stand(0, 0, 1);
        x.image();
        x.image();
        x.image();
        x.feed(1, 2, 3, 4, 5);
        due("parts", x.count(0), 2);
        due("standing", x.count(1), 1);
        due("images", x.count(2), 3);
        due("bytes", x.count(3), 20);
        due("4", x.count(4), -1);
        due("-1", x.count(-1), -1);
    }
}
