/** Sets long runs of calls of the class beside the plain oracle; the numbers come from a fixed seed. */
public final class OracleTest {
    private static long seed = 20261118L;

    /** Whether a run is mostly about rows and standing ones. */
    private static boolean scenic;
    /** How many letters each word of the next alphabet has; 0 for any. */
    private static int wordLength;
    private static boolean shown;
    private static final java.util.TreeMap<String, Integer> tallies = new java.util.TreeMap<>();

    /** Whether the text that is being made may have faults. */
    private static boolean wild;

    private OracleTest() {
    }

    private static int draw(int bound) {
        seed = seed * 6364136223846793005L + 1442695040888963407L;
        return (int) ((seed >>> 33) % bound);
    }

    private static boolean oneIn(int n) {
        return draw(n) == 0;
    }

    /** OracleTest RUNS SEED SHOW: how many runs, another seed, and what was answered how often. */
    public static void main(String[] args) {
        shown = args.length > 2;
        int runs = args.length > 0 ? Integer.parseInt(args[0]) : 700;
        if (args.length > 1) {
            seed = Long.parseLong(args[1]);
        }
        for (int run = 0; run < runs; run++) {
            Texts.about("run " + run);
            CoveredSigns signs = new CoveredSigns();
            Oracle oracle = new Oracle();
            StringBuilder told = new StringBuilder();
            int calls = 0;
            int length = 20 + draw(160);
            scenic = oneIn(3);
            if (!oneIn(30)) {
                wild = false;
                calls += text(signs, oracle, told, alphabet(), true);
            }
            while (calls < length) {
                calls += step(signs, oracle, told);
            }
        }
        for (int run = 0; run < runs; run++) {
            Texts.about("view " + run);
            viewRun();
        }
        tallies.forEach((answer, times) -> System.out.println(answer + ": " + times));
        Texts.end();
        System.out.println("oracle: " + runs + " runs agree");
    }

    private static void tally(String call, String got) {
        if (shown) {
            String name = call.substring(0, Math.max(0, call.indexOf('(')));
            tallies.merge(name + " " + got.replaceAll("[0-9]{3,}", "many"), 1, Integer::sum);
        }
    }

    private static int same(StringBuilder told, String call, Texts.Call mine, Texts.Call due) {
        String got = Texts.outcome(mine);
        String want = Texts.outcome(due);
        if (told != null) {
            told.append(call).append(' ');
        }
        tally(call, got);
        if (!got.equals(want)) {
            Texts.complain(call + " " + got + ", oracle " + want + " after " + told);
        }
        return 1;
    }

    private static int step(CoveredSigns signs, Oracle oracle, StringBuilder told) {
        int kind = draw(100);
        wild = oneIn(4);
        if (scenic && kind >= 10) {
            return kind < 60 ? scenes(signs, oracle, told) : kind < 90 ? views(signs, oracle, told) : tells(signs, oracle, told);
        }
        if (kind < 6) {
            return text(signs, oracle, told, alphabet(), true);
        }
        if (kind < 22) {
            return text(signs, oracle, told, mutated(expression(3, oracle.told(1), oracle.told(2))), false);
        }
        if (kind < 26) {
            int d = draw(6) - 1;
            return same(told, "dirt(" + d + ")", () -> signs.dirt(d), () -> oracle.dirt(d));
        }
        if (kind < 50) {
            return scenes(signs, oracle, told);
        }
        if (kind < 62) {
            return views(signs, oracle, told);
        }
        if (kind < 74) {
            return tells(signs, oracle, told);
        }
        if (kind < 88) {
            return pairs(signs, oracle, told);
        }
        return repairs(signs, oracle, told);
    }

    private static int text(CoveredSigns signs, Oracle oracle, StringBuilder told, String text, boolean alphabet) {
        for (int at = 0; at < text.length(); at += 20) {
            int from = at;
            same(null, "feed", () -> signs.feed(Texts.number(text, from), Texts.number(text, from + 4), Texts.number(text, from + 8),
                    Texts.number(text, from + 12), Texts.number(text, from + 16)),
                    () -> oracle.feed(Texts.number(text, from), Texts.number(text, from + 4), Texts.number(text, from + 8),
                    Texts.number(text, from + 12), Texts.number(text, from + 16)));
        }
        int n = oneIn(20) ? oneIn(5) ? index(0) : draw(520) - 8 : Math.min(text.length(), oracle.count(3));
        String call = (alphabet ? "alphabet" : "rule") + "(" + n + " of " + text + ")";
        same(told, call, () -> alphabet ? signs.alphabet(n) : signs.rule(n), () -> alphabet ? oracle.alphabet(n) : oracle.rule(n));
        same(told, "fault()", signs::fault, oracle::fault);
        for (int what = 0; what < 6; what++) {
            int w = what;
            same(null, "told(" + w + ")", () -> signs.told(w), () -> oracle.told(w));
        }
        for (int cover = 0; cover < oracle.told(4) && !alphabet; cover++) {
            int c = cover;
            same(null, "cover(" + c + ")", () -> signs.cover(c), () -> oracle.cover(c));
        }
        for (int sign = 0; sign < oracle.told(0) && alphabet; sign++) {
            int s = sign;
            same(null, "sign(" + s + ")", () -> signs.sign(s), () -> oracle.sign(s));
            same(null, "family(" + s + ")", () -> signs.family(s), () -> oracle.family(s));
            same(null, "strokes(" + s + ")", () -> signs.strokes(s), () -> oracle.strokes(s));
        }
        for (int i = 0; i < 48 && alphabet; i++) {
            int word = i / 6;
            int place = i % 6;
            same(null, "word(" + word + ", " + place + ")", () -> signs.word(word, place), () -> oracle.word(word, place));
        }
        return 5;
    }

    private static int index(int size) {
        if (oneIn(60)) {
            return oneIn(2) ? Integer.MIN_VALUE + draw(3) : Integer.MAX_VALUE - draw(3);
        }
        return oneIn(12) ? draw(size + 6) - 3 : draw(Math.max(1, size));
    }

    private static int paint(Oracle oracle) {
        int cells = oracle.told(1) * oracle.told(2);
        if (oneIn(20)) {
            return draw(2) * Integer.MIN_VALUE + (1 << Math.min(31, cells + draw(2)));
        }
        if (oracle.told(0) > 0 && !oneIn(3)) {
            int paint = oracle.sign(draw(oracle.told(0)));
            for (int i = draw(3); i > 0; i--) {
                paint ^= 1 << draw(cells);
            }
            return paint;
        }
        return draw(Integer.MAX_VALUE) & (1 << cells) - 1;
    }

    /** A letter that some word has at a place, so that rows often become words; NONE if none does. */
    private static int lettersOfWord(Oracle oracle, int place) {
        if (oracle.told(3) == 0 || place > 5) {
            return -1;
        }
        for (int turn = 0; turn < 4; turn++) {
            int letter = oracle.word(draw(oracle.told(3)), place);
            if (letter >= 0) {
                return letter;
            }
        }
        return -1;
    }

    private static int scenes(CoveredSigns signs, Oracle oracle, StringBuilder told) {
        switch (draw(9)) {
            case 0:
            case 1: {
                int c = index(oracle.told(4));
                int letter = lettersOfWord(oracle, oracle.count(0));
                int p = letter < 0 || oneIn(4) ? paint(oracle) : oracle.sign(letter);
                same(told, "part(" + c + ", " + p + ")", () -> signs.part(c, p), () -> oracle.part(c, p));
                break;
            }
            case 2:
            case 3:
            case 4: {
                int letter = lettersOfWord(oracle, oracle.count(1));
                int s = letter < 0 || oneIn(6) ? index(oracle.told(0)) : letter;
                int x = oneIn(15) ? draw(120) - 10 : draw(12);
                int y = oneIn(15) ? draw(120) - 10 : 1 + draw(30);
                same(told, "stand(" + s + ", " + x + ", " + y + ")", () -> signs.stand(s, x, y), () -> oracle.stand(s, x, y));
                break;
            }
            case 5:
                if (oneIn(5)) {
                    same(told, "leave()", signs::leave, oracle::leave);
                } else if (oneIn(3)) {
                    same(told, "forget()", signs::forget, oracle::forget);
                }
                break;
            case 6:
                same(told, "image()", signs::image, oracle::image);
                break;
            case 7:
                same(told, "restore()", signs::restore, oracle::restore);
                break;
            default:
                for (int what = -1; what < 5; what++) {
                    int w = what;
                    same(null, "count(" + w + ")", () -> signs.count(w), () -> oracle.count(w));
                }
        }
        same(null, "confusions()", signs::confusions, oracle::confusions);
        same(null, "words()", signs::words, oracle::words);
        for (int place = -1; place < 7; place++) {
            int p = place;
            same(null, "sure(" + p + ")", () -> signs.sure(p), () -> oracle.sure(p));
        }
        return 1;
    }

    private static int views(CoveredSigns signs, Oracle oracle, StringBuilder told) {
        boolean so = oneIn(2);
        int b = index(oracle.count(1));
        int s = oneIn(15) ? oneIn(4) ? index(100) : draw(140) - 20 : draw(40);
        same(null, "seen(" + b + ", " + s + ", " + so + ")", () -> signs.seen(b, s, so), () -> oracle.seen(b, s, so));
        same(null, "guess(" + b + ", " + s + ", " + so + ")", () -> signs.guess(b, s, so), () -> oracle.guess(b, s, so));
        same(null, "known(" + b + ", " + so + ")", () -> signs.known(b, so), () -> oracle.known(b, so));
        same(null, "all(" + so + ")", () -> signs.all(so), () -> oracle.all(so));
        same(null, "voyage(" + so + ")", () -> signs.voyage(so), () -> oracle.voyage(so));
        return 5;
    }

    /** Boards that stand close together and spell a word, seen from every place. */
    private static void viewRun() {
        CoveredSigns signs = new CoveredSigns();
        Oracle oracle = new Oracle();
        StringBuilder told = new StringBuilder();
        wild = false;
        wordLength = draw(4);
        text(signs, oracle, told, alphabet(), true);
        wordLength = 0;
        int d = oneIn(3) ? draw(4) : 0;
        same(told, "dirt(" + d + ")", () -> signs.dirt(d), () -> oracle.dirt(d));
        int word = draw(8);
        int boards = oracle.told(3) > word && !oneIn(5) ? 6 : draw(10);
        for (int board = 0; board < boards && oracle.told(0) > 0; board++) {
            int letter = oracle.told(3) > word && board < 6 ? oracle.word(word, board) : draw(oracle.told(0));
            int s = letter;
            int x = oneIn(15) ? draw(100) : 20 + draw(20);
            int y = oneIn(15) ? 1 + draw(99) : 1 + draw(12);
            if (s >= 0) {
                same(told, "stand(" + s + ", " + x + ", " + y + ")", () -> signs.stand(s, x, y), () -> oracle.stand(s, x, y));
            }
        }
        for (int i = 0; i < 2; i++) {
            boolean so = i > 0;
            for (int j = 0; j < oracle.count(1) * 40; j++) {
                int board = j / 40;
                int s = j % 40 == 39 ? 99 : 10 + j % 40;
                same(null, "seen(" + board + ", " + s + ", " + so + ")", () -> signs.seen(board, s, so), () -> oracle.seen(board, s, so));
                same(null, "guess(" + board + ", " + s + ", " + so + ")", () -> signs.guess(board, s, so), () -> oracle.guess(board, s, so));
            }
            for (int j = 0; j < oracle.count(1); j++) {
                int board = j;
                same(null, "known(" + board + ", " + so + ")", () -> signs.known(board, so), () -> oracle.known(board, so));
            }
            same(null, "all(" + so + ")", () -> signs.all(so), () -> oracle.all(so));
            same(null, "voyage(" + so + ")", () -> signs.voyage(so), () -> oracle.voyage(so));
        }
    }

    private static int tells(CoveredSigns signs, Oracle oracle, StringBuilder told) {
        int c = index(oracle.told(4));
        int p = paint(oracle);
        same(null, "may(" + c + ", " + p + ")", () -> signs.may(c, p), () -> oracle.may(c, p));
        same(null, "read(" + c + ", " + p + ")", () -> signs.read(c, p), () -> oracle.read(c, p));
        same(null, "nearest(" + c + ", " + p + ")", () -> signs.nearest(c, p), () -> oracle.nearest(c, p));
        int s = index(oracle.told(0));
        int what = index(2);
        if (oracle.told(1) * oracle.told(2) <= 16 || oneIn(12)) {
            same(null, "least(" + s + ", " + what + ")", () -> signs.least(s, what), () -> oracle.least(s, what));
        }
        int f = index(4);
        same(null, "akin(" + f + ", " + what + ")", () -> signs.akin(f, what), () -> oracle.akin(f, what));
        return 5;
    }

    private static int pairs(CoveredSigns signs, Oracle oracle, StringBuilder told) {
        int a = index(oracle.told(0));
        int b = index(oracle.told(0));
        int what = index(2);
        same(null, "confused(" + a + ", " + b + ")", () -> signs.confused(a, b), () -> oracle.confused(a, b));
        same(null, "confusions()", signs::confusions, oracle::confusions);
        same(null, "blind(" + what + ")", () -> signs.blind(what), () -> oracle.blind(what));
        same(null, "bound()", signs::bound, oracle::bound);
        same(null, "strangers()", signs::strangers, oracle::strangers);
        return 5;
    }

    private static int repairs(CoveredSigns signs, Oracle oracle, StringBuilder told) {
        int what = index(3);
        long cells = oracle.told(1) * oracle.told(2);
        long places = oracle.told(0) * cells;
        long once = (long) oracle.told(0) * oracle.told(0) * oracle.told(4) * cells;
        if (places * places * once < 60_000_000L) {
            same(null, "changed(" + what + ")", () -> signs.changed(what), () -> oracle.changed(what));
        }
        if (places * once < 3_000_000L) {
            same(null, "steps(" + what + ")", () -> signs.steps(what), () -> oracle.steps(what));
        }
        if (cells > 6 || oneIn(3)) {
            same(null, "most()", signs::most, oracle::most);
        }
        if (cells < 10 || cells > 12 || oneIn(30)) {
            same(null, "taken()", signs::taken, oracle::taken);
        }
        return 4;
    }

    /** A text that is mostly right; now and then one byte is gone, or another, or one more stands there. */
    private static String mutated(String text) {
        StringBuilder b = new StringBuilder(text);
        while (wild && !oneIn(3) && b.length() > 0) {
            int at = draw(b.length());
            int kind = draw(3);
            String signs = " 0123456789;[]abcnotrd\u0000\u00e9\n-";
            char c = signs.charAt(draw(signs.length()));
            if (kind == 0) {
                b.deleteCharAt(at);
            } else if (kind == 1) {
                b.setCharAt(at, c);
            } else {
                b.insert(at, c);
            }
        }
        return b.toString();
    }

    private static String gap() {
        return oneIn(4) ? "  " : " ";
    }

    private static int upTo(int low, int high) {
        return wild && oneIn(30) ? high + 1 + draw(3) : low + draw(Math.max(1, high - low + 1));
    }

    private static String alphabet() {
        StringBuilder b = new StringBuilder();
        int w = 6;
        int h = 5;
        if (!oneIn(4)) {
            w = oneIn(2) ? 2 + draw(2) : 2 + draw(5);
            h = oneIn(2) ? 2 + draw(2) : 2 + draw(4);
            b.append("board").append(gap()).append(w).append(gap()).append(h).append(";");
        }
        int signs = 0;
        int clauses = oneIn(10) ? wild ? 50 + draw(15) : 60 : draw(45);
        int letters = 1 + draw(4);
        int words = 0;
        for (int i = 0; i < clauses && b.length() < 480; i++) {
            int kind = draw(10);
            if (signs == 0 && !(wild && oneIn(30))) {
                kind = 0;
            }
            boolean full = (kind <= 1 || kind == 7) && signs >= 12 || kind == 9 && words >= 8;
            if (full && !(wild && oneIn(5))) {
                kind = 3;
            }
            b.append(oneIn(8) ? " " : "");
            if (kind <= 1) {
                b.append("sign");
                signs++;
            } else if (kind <= 5) {
                boolean across = oneIn(2);
                int x = upTo(0, w - 1);
                int y = upTo(0, h - 1);
                b.append(across ? "across" : "down").append(x).append(gap()).append(y).append(' ');
                b.append(upTo(1, across ? w - x : h - y));
            } else if (kind == 6) {
                b.append("clean ").append(upTo(0, w - 1)).append(' ').append(upTo(0, h - 1));
            } else if (kind == 7) {
                b.append(oneIn(2) ? "turned " : "mirror").append(upTo(0, signs - 1));
                signs++;
            } else if (kind == 8) {
                b.append("family ").append(upTo(0, oneIn(3) ? 3 : 1)).append(' ').append(upTo(0, signs - 1));
            } else {
                b.append("word ");
                int drawn = wild && oneIn(9) ? 7 : 1 + draw(oneIn(3) ? 6 : 2);
                for (int n = wordLength > 0 ? wordLength : drawn; n > 0; n--) {
                    b.append((char) ('a' + upTo(0, Math.max(0, Math.min(signs, letters) - 1))));
                }
                words++;
            }
            b.append(oneIn(9) ? " ;" : ";");
        }
        return mutated(b.toString());
    }

    private static String expression(int depth, int w, int h) {
        if (wild && oneIn(30)) {
            StringBuilder b = new StringBuilder();
            for (int n = draw(8); n > 0; n--) {
                b.append("not ");
            }
            return b.append(expression(depth - 1, w, h)).toString();
        }
        if (depth > 0 && oneIn(3)) {
            return oneIn(2) ? "not " + expression(depth - 1, w, h) : "[" + gap() + expression(depth - 1, w, h) + "]";
        }
        if (depth > 0 && oneIn(2)) {
            return expression(depth - 1, w, h) + (oneIn(2) ? " and " : " or ") + expression(depth - 1, w, h);
        }
        int least = Math.min(w, h);
        switch (draw(5)) {
            case 0: {
                int side = upTo(0, 3);
                return "side " + side + gap() + upTo(1, side < 2 ? w : h);
            }
            case 1:
                return "corner" + gap() + upTo(0, 3) + gap() + upTo(1, least);
            case 2:
                return "any " + (oneIn(4) ? upTo(0, 3) : draw(2));
            case 3: {
                int x = draw(w);
                int y = draw(h);
                return "front " + x + " " + y + " " + upTo(1, w - x) + " " + upTo(1, h - y);
            }
            default:
                return "fog" + upTo(0, 1);
        }
    }
}
