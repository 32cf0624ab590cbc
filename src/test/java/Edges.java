import java.io.IOException;
import java.nio.file.Files;
import java.nio.file.Path;
import java.util.NoSuchElementException;
import java.util.TreeSet;

/** Helps the tests of edges: sentences of the document, refused calls, and all that an object answers. */
final class Edges {
    static final int NONE = -1;
    static final String FOUR = "board 3 2;sign;across 0 0 3;sign;down 0 0 2;turned 1;sign;"
            + "family 0 0;family 1 2;family 0 1;word ab;word aa;word ba;";

    private static final Path DOCUMENT = Path.of("..", "shared", "DOC.md");
    private static final TreeSet<Integer> promises = new TreeSet<>();
    private static String document = null;

    private Edges() {
    }

    interface Maker {
        CoveredSigns make();
    }

    interface On {
        int on(CoveredSigns signs);
    }

    /** A promise and a sentence, which must stand in the document so: the tests that follow are of these. */
    static void says(int promise, String sentence) {
        Texts.about("promise " + promise + ", \"" + sentence + "\"");
        promises.add(promise);
        if (Files.exists(DOCUMENT) && !document().contains(flat(sentence))) {
            Texts.complain("this does not stand in " + DOCUMENT);
        }
    }

    static void allPromises() {
        Texts.about("edges");
        for (int promise = 1; promise <= 40; promise++) {
            if (!promises.contains(promise)) {
                Texts.complain("no edge of promise " + promise + " is tested");
            }
        }
    }

    private static String document() {
        if (document == null) {
            try {
                document = flat(Files.readString(DOCUMENT));
            } catch (IOException e) {
                document = "";
                Texts.complain("can't read " + DOCUMENT);
            }
        }
        return document;
    }

    private static String flat(String text) {
        return text.replaceAll("\\s+", " ");
    }

    static void due(String call, int got, int want) {
        Texts.due(call, got, want);
    }

    static void illegal(String call, Texts.Call made) {
        Texts.dueThrow(call, IllegalArgumentException.class, made);
    }

    static void noElement(String call, Texts.Call made) {
        Texts.dueThrow(call, NoSuchElementException.class, made);
    }

    static void noIndex(String call, Texts.Call made) {
        Texts.dueThrow(call, IndexOutOfBoundsException.class, made);
    }

    /** Numbers that are too small or too large wherever low to high is asked for. */
    static int[] beside(int low, int high) {
        return new int[] {low - 1, high + 1, Integer.MIN_VALUE, Integer.MAX_VALUE};
    }

    /** A text alone, on a new object: what it answers, and where its fault is. */
    static void alphabetIs(String text, int answer, int place) {
        CoveredSigns x = new CoveredSigns();
        due("alphabet of " + text, Texts.alphabet(x, text), answer);
        due("fault of " + text, x.fault(), place);
        due("bytes left of " + text, x.count(3), 0);
        due("signs of " + text, x.told(0), Math.max(0, answer));
    }

    /** The paint of the latest sign of a text without fault. */
    static void paintIs(String text, int paint) {
        CoveredSigns x = Texts.with(text, "");
        due("latest paint of " + text, x.told(0) > 0 ? x.sign(x.told(0) - 1) : NONE, paint);
    }

    static void ruleIs(String board, String text, int answer, int place) {
        CoveredSigns x = Texts.with(board, "");
        due("rule " + text, Texts.rule(x, text), answer);
        due("fault of " + text, x.fault(), place);
        due("bytes left of " + text, x.count(3), 0);
        due("covers of " + text, x.told(4), answer < 0 ? 1 : answer);
    }

    /** A rule that tells one cover, and the cells that it hides. */
    static void coverIs(String board, String text, int cells) {
        ruleIs(board, text, 1, NONE);
        due("cells of " + text, Texts.with(board, text).cover(0), cells);
    }

    /** Signs, words, a rule, d, two parts, three standing ones, two images of other things, a fault; the tape as told. */
    static CoveredSigns rich(String tape) {
        CoveredSigns x = Texts.with(FOUR, "any 0 or side 0 2 or side 0 1");
        x.dirt(2);
        x.part(0, 7);
        x.part(0, 8);
        x.part(2, 9);
        x.stand(0, 0, 10);
        x.image();
        x.dirt(0);
        x.forget();
        x.part(1, 1);
        x.stand(1, 0, 5);
        x.image();
        x.dirt(1);
        x.part(2, 9);
        x.stand(2, 3, 20);
        Texts.rule(x, "side 9");
        Texts.feed(x, tape);
        return x;
    }

    static CoveredSigns rich() {
        return rich("any 1 or side 1 1   ");
    }

    /** As rich, with as many parts, standing ones, images and bytes as there may be. */
    static CoveredSigns full() {
        CoveredSigns x = rich("");
        for (int i = 0; i < 4; i++) {
            x.part(i % 3, 9 + i);
        }
        for (int i = 0; i < 5; i++) {
            x.stand(i % 4, 4 * i, 6 + 2 * i);
        }
        x.image();
        Texts.feed(x, "any 1 or side 1 1".concat(" ".repeat(483)));
        return x;
    }

    /** All that an object answers but the fault and the tape; its images are used up by this. */
    static String things(CoveredSigns x) {
        StringBuilder b = new StringBuilder();
        for (int what = 0; what < 5; what++) {
            b.append(x.told(what)).append(' ');
        }
        for (int sign = 0; sign < x.told(0); sign++) {
            b.append(x.sign(sign)).append('/').append(x.family(sign)).append(' ');
        }
        for (int word = 0; word < x.told(3); word++) {
            for (int place = 0; place < 3; place++) {
                b.append(x.word(word, place)).append(' ');
            }
        }
        for (int cover = 0; cover < Math.min(4, x.told(4)); cover++) {
            b.append(x.cover(cover)).append(' ');
        }
        b.append(scene(x));
        for (int left = x.restore(); left >= 0; left = x.restore()) {
            b.append(" image ").append(left).append(": ").append(scene(x));
        }
        return b.toString();
    }

    /** What d, the row and the standing ones answer. */
    static String scene(CoveredSigns x) {
        StringBuilder b = new StringBuilder();
        b.append("d ").append(x.told(5)).append(" pairs ").append(x.confusions()).append(" words ").append(x.words());
        for (int place = 0; place < 3; place++) {
            b.append(' ').append(x.sure(place));
        }
        for (int what = 0; what < 3; what++) {
            b.append(" count ").append(x.count(what));
        }
        for (int board = 0; board < x.count(1); board++) {
            b.append(' ').append(x.guess(board, 4, false)).append(' ').append(x.seen(board, 5, true));
        }
        b.append(" all ").append(x.all(false)).append(" voyage ").append(x.voyage(false));
        return b.toString();
    }

    /** What signs, covers and d answer; each question is asked twice, and the first of them is asked last. */
    static String answers(CoveredSigns x, int first) {
        String[] answers = new String[8];
        for (int i = 0; i < 2 * answers.length; i++) {
            int question = (i + first) % answers.length;
            String answer = answer(x, question);
            if (answers[question] != null) {
                same("the second answer to " + question, answer, answers[question]);
            }
            answers[question] = answer;
        }
        return String.join(", ", answers);
    }

    private static String answer(CoveredSigns x, int question) {
        switch (question) {
            case 0:
                return "blind " + x.blind(0) + " " + x.blind(1);
            case 1:
                return "changed " + x.changed(0) + " " + x.changed(1) + " " + x.changed(2);
            case 2:
                return "steps " + x.steps(0) + " " + x.steps(1);
            case 3:
                return "bound " + x.bound();
            case 4:
                return "most " + x.most();
            case 5:
                return "taken " + x.taken();
            case 6: {
                StringBuilder b = new StringBuilder("least");
                for (int sign = 0; sign < x.told(0); sign++) {
                    b.append(' ').append(x.least(sign, 0)).append(' ').append(x.least(sign, 1));
                }
                return b.toString();
            }
            default: {
                StringBuilder b = new StringBuilder("pairs " + x.confusions());
                for (int sign = 1; sign < x.told(0); sign++) {
                    b.append(' ').append(x.confused(sign, sign - 1)).append(' ').append(x.may(0, x.sign(sign)));
                }
                return b.toString();
            }
        }
    }

    /** What is on the tape shows when it is taken as a rule. */
    static String faultAndTape(CoveredSigns x) {
        StringBuilder b = new StringBuilder();
        b.append("fault ").append(x.fault()).append(" bytes ").append(x.count(3));
        b.append(" rule ").append(x.rule(x.count(3))).append(" at ").append(x.fault()).append(" cover ").append(x.cover(0));
        return b.toString();
    }

    /** A refused call, an answer or an exception, leaves all as it was. */
    static void leavesAll(String call, Maker maker, On refused, String outcome) {
        CoveredSigns x = maker.make();
        same(call, Texts.outcome(() -> refused.on(x)), outcome);
        CoveredSigns y = maker.make();
        same("things after " + call, things(x), things(y));
        same("fault and tape after " + call, faultAndTape(x), faultAndTape(y));
    }

    /** A text with a fault takes the tape alone. */
    static void takesTapeAlone(String text, boolean isAlphabet, int answer) {
        CoveredSigns x = rich("");
        int n = Texts.feed(x, text);
        due("answer of " + text, isAlphabet ? x.alphabet(n) : x.rule(n), answer);
        due("bytes left of " + text, x.count(3), 0);
        same("things after " + text, things(x), things(rich("")));
    }

    static void same(String what, String got, String want) {
        if (!got.equals(want)) {
            Texts.complain(what + ": " + got + ", due is: " + want);
        }
    }

    static String thrown(Class<?> kind) {
        return "throws " + kind.getName();
    }
}
