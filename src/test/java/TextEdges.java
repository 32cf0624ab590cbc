/** Edges of promises 1, 2, 3 and 5: the new object, the tape, the text of an alphabet. */
final class TextEdges {
    private static final int NONE = Edges.NONE;
    private static final String TWELVE = "sign;".repeat(12);

    private TextEdges() {
    }

    static void test() {
        newObject();
        tapeInOrder();
        tapeIsFull();
        firstBytes();
        allIsNew();
        faultsLeaveAll();
        wrongCount();
        boards();
        boardFirst();
        signs();
        across();
        down();
        clean();
        more();
        families();
        words();
        clauses();
        cannotStand();
        wrongNumbers();
        tooMany();
        tooLate();
        leastOfOne();
        numbers();
        blanks();
        faultPlaces();
    }

    private static void newObject() {
        Edges.says(1, "No SIGNS on a board of 6 by 5; the RULE: any 0.");
        CoveredSigns x = new CoveredSigns();
        Edges.due("signs", x.told(0), 0);
        Edges.noElement("sign 0", () -> x.sign(0));
        Edges.due("paint on all cells", x.nearest(0, (1 << 30) - 1), NONE);
        Edges.illegal("paint below", () -> x.nearest(0, 1 << 30));
        Edges.due("covers", x.told(4), 1);
        Edges.due("hidden cells", x.cover(0), 0);
        Edges.noIndex("a second cover", () -> x.cover(1));
        Edges.due("d", x.told(5), 0);
        for (int what = 0; what < 4; what++) {
            Edges.due("count " + what, x.count(what), 0);
        }
        Edges.due("no image", x.restore(), NONE);
        String[] fits = {"side 0 6", "side 2 5", "corner 3 5", "front 5 4 1 1"};
        String[] doesNot = {"side 0 7", "side 2 6", "corner 3 6", "front 5 4 1 2"};
        for (int i = 0; i < fits.length; i++) {
            Edges.due(fits[i], Texts.rule(new CoveredSigns(), fits[i]), 1);
            Edges.due(doesNot[i], Texts.rule(new CoveredSigns(), doesNot[i]), -8);
        }
    }

    private static int feedNumbers(CoveredSigns x, int[] numbers) {
        return x.feed(numbers[0], numbers[1], numbers[2], numbers[3], numbers[4]);
    }

    private static void tapeInOrder() {
        Edges.says(2, "Twenty bytes come on the TAPE, of each number the highest first: how many there are");
        for (int at = 0; at < 20; at++) {
            for (int other : new int[] {'x', 0, 127, 128, 255}) {
                int[] numbers = {0x20202020, 0x20202020, 0x20202020, 0x20202020, 0x20202020};
                int shift = 24 - 8 * (at % 4);
                numbers[at / 4] = numbers[at / 4] & ~(255 << shift) | other << shift;
                CoveredSigns x = new CoveredSigns();
                Edges.due("feed", feedNumbers(x, numbers), 20);
                Edges.due("the only byte that is no blank", x.alphabet(20), -9);
                Edges.due("its place", x.fault(), at);
            }
        }
    }

    private static void tapeIsFull() {
        Edges.says(2, "NONE, doing nothing, if there would be more than 500");
        CoveredSigns x = new CoveredSigns();
        int sign = 's' << 24 | 'i' << 16 | 'g' << 8 | 'n';
        int blanks = 0x20202020;
        for (int i = 1; i <= 24; i++) {
            Edges.due("feed " + i, x.feed(blanks, blanks, blanks, blanks, blanks), 20 * i);
        }
        Edges.due("feed 25", x.feed(blanks, blanks, blanks, sign, ' ' << 24 | ' ' << 16 | ' ' << 8 | ';'), 500);
        Edges.due("feed 26", x.feed(sign, sign, sign, sign, sign), NONE);
        Edges.due("feed 27", x.feed(-1, -1, -1, -1, -1), NONE);
        Edges.due("bytes", x.count(3), 500);
        Edges.due("all 500 as they came", x.alphabet(500), 1);
        Edges.due("bytes then", x.count(3), 0);
        Edges.due("feed again", x.feed(blanks, blanks, blanks, blanks, sign), 20);
        Edges.due("the new bytes", x.alphabet(20), -9);
        Edges.due("end", x.fault(), 20);
    }

    private static void firstBytesAre(String text, int n, int answer, int place) {
        CoveredSigns x = new CoveredSigns();
        Texts.feed(x, text);
        Edges.due("the first " + n + " of " + text, x.alphabet(n), answer);
        Edges.due("fault of the first " + n + " of " + text, x.fault(), place);
        Edges.due("bytes left behind the first " + n + " of " + text, x.count(3), 0);
    }

    private static void firstBytes() {
        Edges.says(3, "The first n bytes of the TAPE (empty then) are the ALPHABET");
        String four = "sign;sign;sign;sign;";
        firstBytesAre("", 0, 0, NONE);
        firstBytesAre(four, 0, 0, NONE);
        firstBytesAre(four, 4, -9, 4);
        firstBytesAre(four, 5, 1, NONE);
        firstBytesAre(four, 6, -9, 5);
        firstBytesAre(four, 9, -9, 9);
        firstBytesAre(four, 19, -9, 19);
        firstBytesAre(four, 20, 4, NONE);
        firstBytesAre("sign;word aaaaaaa;", 16, -9, 16);
        firstBytesAre("sign;across 0 0 11;", 17, -9, 17);
        String last = " ".repeat(495).concat("sign;");
        firstBytesAre(last, 495, 0, NONE);
        firstBytesAre(last, 499, -9, 499);
        firstBytesAre(last, 500, 1, NONE);
        CoveredSigns x = new CoveredSigns();
        Texts.feed(x, four);
        x.alphabet(5);
        Texts.feed(x, "turned 0;");
        Edges.due("what lay behind is gone", x.alphabet(9), -8);
    }

    private static void allIsNew() {
        Edges.says(3, "(RULE: any 0, d 0, no PARTS, STANDING ones, IMAGES): how many SIGNS");
        for (String text : new String[] {"", "sign;", TWELVE}) {
            CoveredSigns x = Edges.rich("");
            Edges.due("signs", Texts.alphabet(x, text), text.length() / 5);
            Edges.due("signs told", x.told(0), text.length() / 5);
            Edges.due("board", 10 * x.told(1) + x.told(2), 65);
            Edges.due("words", x.told(3), 0);
            Edges.due("covers", x.told(4), 1);
            Edges.due("any 0", x.cover(0), 0);
            Edges.due("d", x.told(5), 0);
            Edges.due("fault", x.fault(), NONE);
            for (int what = 0; what < 4; what++) {
                Edges.due("count " + what, x.count(what), 0);
            }
            Edges.due("no row", x.forget(), 0);
            Edges.due("none stands", x.leave(), 0);
            Edges.due("no image", x.restore(), NONE);
        }
    }

    private static void faultsLeaveAll() {
        Edges.says(3, "or the FAULT less 10 (all but the TAPE stays)");
        Edges.takesTapeAlone("board 2 2;sign;sing;", true, -9);
        Edges.takesTapeAlone("board 2 2;sign;across 0 0 1;family 4 0;", true, -8);
        Edges.takesTapeAlone("board 2 2;" + TWELVE + "sign;", true, -7);
        Edges.takesTapeAlone("board 2 2;sign;word a;board 2 2;", true, -6);
        Edges.takesTapeAlone("sign;word a;word b;", true, -8);
        Edges.takesTapeAlone("x", true, -9);
    }

    private static void wrongCount() {
        Edges.says(3, "IllegalArgumentException: n is not 0 to the TAPE's bytes (it stays).");
        for (int n : Edges.beside(0, 0)) {
            Edges.leavesAll("alphabet(" + n + ") without bytes", () -> Edges.rich(""), x -> x.alphabet(n),
                    Edges.thrown(IllegalArgumentException.class));
        }
        for (int n : Edges.beside(0, 20)) {
            Edges.leavesAll("alphabet(" + n + ") of 20", Edges::rich, x -> x.alphabet(n),
                    Edges.thrown(IllegalArgumentException.class));
        }
        for (int n : Edges.beside(0, 500)) {
            Edges.leavesAll("alphabet(" + n + ") of 500", Edges::full, x -> x.alphabet(n),
                    Edges.thrown(IllegalArgumentException.class));
        }
        CoveredSigns x = new CoveredSigns();
        Texts.feed(x, "sign;sign;sign;sign;");
        Edges.illegal("21 of 20", () -> x.alphabet(21));
        Edges.due("the tape stays", x.count(3), 20);
        Edges.due("20 of 20", x.alphabet(20), 4);
        Edges.illegal("20 of none", () -> x.alphabet(20));
        Edges.due("0 of none", x.alphabet(0), 0);
    }

    private static void boardIs(String text, int w, int h) {
        CoveredSigns x = Texts.with(text, "");
        Edges.due("W of " + text, x.told(1), w);
        Edges.due("H of " + text, x.told(2), h);
    }

    private static void boards() {
        Edges.says(3, "\"board\" W H (W 2 to 6 CELLS across, H 2 to 5 down; 6, 5 without;");
        for (int w = 2; w <= 6; w++) {
            for (int h = 2; h <= 5; h++) {
                boardIs("board " + w + " " + h + ";", w, h);
            }
        }
        boardIs("", 6, 5);
        boardIs("sign;", 6, 5);
        Edges.alphabetIs("board 1 3;", -8, 6);
        Edges.alphabetIs("board 7 3;", -8, 6);
        Edges.alphabetIs("board 0 3;", -8, 6);
        Edges.alphabetIs("board 3 1;", -8, 8);
        Edges.alphabetIs("board 3 6;", -8, 8);
        Edges.alphabetIs("board 6 6;", -8, 8);
        Edges.alphabetIs("board 3 0;", -8, 8);
    }

    private static void boardFirst() {
        Edges.says(3, "ahead of all others, once)");
        Edges.alphabetIs("board 3 2;sign;", 1, NONE);
        Edges.alphabetIs("  board 3 2;", 0, NONE);
        Edges.alphabetIs("sign;board 3 2;", -6, 5);
        Edges.alphabetIs("sign;family 0 0;board 3 2;", -6, 16);
        Edges.alphabetIs("board 3 2;board 3 2;", -6, 10);
        Edges.alphabetIs("board 3 2;sign;board 3 2;", -6, 15);
        boardIs("board 2 2;", 2, 2);
    }

    private static void signs() {
        Edges.says(3, "(a SIGN, numbered from 0 on, 12 at most, with no PAINT)");
        Edges.alphabetIs("sign;".repeat(11), 11, NONE);
        Edges.alphabetIs(TWELVE, 12, NONE);
        Edges.alphabetIs(TWELVE + "sign;", -7, 60);
        Edges.alphabetIs("sign;".repeat(11) + "turned 0;", 12, NONE);
        Edges.alphabetIs("sign;".repeat(11) + "mirror 0;", 12, NONE);
        Edges.alphabetIs(TWELVE + "turned 0;", -7, 60);
        Edges.alphabetIs(TWELVE + "mirror 0;", -7, 60);
        Edges.alphabetIs("sign;".repeat(11) + "mirror 0;mirror 0;", -7, 64);
        Edges.paintIs("sign;across 0 0 6;sign;", 0);
        CoveredSigns x = Texts.with(TWELVE + "across 5 4 1;", "");
        Edges.due("number 11", x.sign(11), 1 << 29);
        Edges.due("number 10", x.sign(10), 0);
    }

    private static void across() {
        Edges.says(3, "\"across\" X Y N");
        Edges.paintIs("sign;across 0 0 1;", 1);
        Edges.paintIs("sign;across 0 0 6;", 63);
        Edges.alphabetIs("sign;across 0 0 0;", -8, 16);
        Edges.alphabetIs("sign;across 0 0 7;", -8, 16);
        Edges.paintIs("sign;across 5 0 1;", 32);
        Edges.alphabetIs("sign;across 5 0 0;", -8, 16);
        Edges.alphabetIs("sign;across 5 0 2;", -8, 16);
        Edges.alphabetIs("sign;across 6 0 1;", -8, 12);
        Edges.paintIs("sign;across 0 4 6;", 63 << 24);
        Edges.alphabetIs("sign;across 0 5 1;", -8, 14);
        Edges.paintIs("board 2 5;sign;across 1 4 1;", 1 << 9);
        Edges.paintIs("board 2 5;sign;across 0 0 2;", 3);
        Edges.alphabetIs("board 2 5;sign;across 0 0 3;", -8, 26);
        Edges.alphabetIs("board 2 5;sign;across 2 0 1;", -8, 22);
        Edges.paintIs("board 6 2;sign;across 0 1 6;", 63 << 6);
        Edges.alphabetIs("board 6 2;sign;across 0 2 6;", -8, 24);
        Edges.says(3, "(the latest SIGN has PAINT on N CELLS, from X, Y on to the right, or below; 1 to as far as the board goes)");
        Edges.paintIs("board 3 2;sign;sign;across 1 0 2;", 6);
        Edges.due("an earlier one has none", Texts.with("board 3 2;sign;sign;across 1 0 2;", "").sign(0), 0);
        Edges.paintIs("board 3 2;sign;across 0 0 1;turned 0;across 0 0 1;", 33);
        Edges.paintIs("board 3 2;sign;across 0 0 1;across 0 0 1;across 0 0 2;", 3);
    }

    private static void down() {
        Edges.says(3, "\"down\" X Y N");
        Edges.paintIs("sign;down 0 0 1;", 1);
        Edges.paintIs("sign;down 0 0 5;", 1 | 1 << 6 | 1 << 12 | 1 << 18 | 1 << 24);
        Edges.alphabetIs("sign;down 0 0 0;", -8, 14);
        Edges.alphabetIs("sign;down 0 0 6;", -8, 14);
        Edges.paintIs("sign;down 0 4 1;", 1 << 24);
        Edges.alphabetIs("sign;down 0 4 2;", -8, 14);
        Edges.alphabetIs("sign;down 0 5 1;", -8, 12);
        Edges.paintIs("sign;down 5 0 1;", 32);
        Edges.alphabetIs("sign;down 6 0 1;", -8, 10);
        Edges.paintIs("board 6 2;sign;down 5 0 2;", 32 | 1 << 11);
        Edges.alphabetIs("board 6 2;sign;down 5 0 3;", -8, 24);
        Edges.paintIs("board 2 5;sign;down 1 1 4;", 8 | 32 | 128 | 512);
        Edges.alphabetIs("board 2 5;sign;down 1 1 5;", -8, 24);
    }

    private static void clean() {
        Edges.says(3, "\"clean\" X Y (not on that one)");
        String row = "board 3 2;sign;across 0 0 3;across 0 1 3;clean ";
        Edges.paintIs(row + "0 0;", 62);
        Edges.paintIs(row + "2 1;", 31);
        Edges.alphabetIs(row + "3 0;", -8, row.length());
        Edges.alphabetIs(row + "0 2;", -8, row.length() + 2);
        Edges.paintIs("board 3 2;sign;clean 2 1;", 0);
        Edges.paintIs("board 3 2;sign;across 2 1 1;clean 2 1;clean 2 1;", 0);
        Edges.says(3, "X 0 to W less 1, Y 0 to H less 1 (0 above); K told ahead.");
        Edges.alphabetIs("sign;clean 5 4;", 1, NONE);
        Edges.alphabetIs("sign;clean 6 4;", -8, 11);
        Edges.alphabetIs("sign;clean 5 5;", -8, 13);
        Edges.alphabetIs("board 2 5;sign;clean 1 4;", 1, NONE);
        Edges.alphabetIs("board 2 5;sign;clean 2 4;", -8, 21);
        Edges.alphabetIs("board 6 2;sign;clean 5 1;", 1, NONE);
        Edges.alphabetIs("board 6 2;sign;clean 5 2;", -8, 23);
    }

    private static void more() {
        Edges.says(3, "\"turned\" K, \"mirror\" K (a SIGN more: K by half a turn; left for right)");
        for (String word : new String[] {"turned", "mirror"}) {
            Edges.alphabetIs(word + " 0;", -8, 7);
            Edges.alphabetIs("sign;" + word + " 0;", 2, NONE);
            Edges.alphabetIs("sign;" + word + " 1;", -8, 12);
            Edges.alphabetIs("sign;" + word + " 0;" + word + " 1;", 3, NONE);
            Edges.alphabetIs("sign;" + word + " 0;" + word + " 2;", -8, 21);
            Edges.alphabetIs("sign;".repeat(11) + word + " 10;", 12, NONE);
            Edges.alphabetIs("sign;".repeat(11) + word + " 11;", -8, 62);
            Edges.alphabetIs("sign;" + word + " 1;sign;", -8, 12);
        }
        for (int w = 2; w <= 6; w++) {
            for (int h = 2; h <= 5; h++) {
                String first = "board " + w + " " + h + ";sign;across 0 0 1;";
                Edges.paintIs(first + "turned 0;", 1 << w * h - 1);
                Edges.paintIs(first + "mirror 0;", 1 << w - 1);
                Edges.paintIs(first + "turned 0;mirror 1;", 1 << w * (h - 1));
            }
        }
    }

    private static void familyIs(String text, int family) {
        CoveredSigns x = Texts.with(text, "");
        Edges.due("family of the latest of " + text, x.told(0) > 0 ? x.family(x.told(0) - 1) : -2, family);
    }

    private static void families() {
        Edges.says(3, "\"family\" F K (SIGN K is of FAMILY F, 0 to 3; the last counts; of none without)");
        familyIs("sign;", NONE);
        familyIs("sign;family 0 0;", 0);
        familyIs("sign;family 3 0;", 3);
        Edges.alphabetIs("sign;family 4 0;", -8, 12);
        Edges.alphabetIs("sign;family 3 1;", -8, 14);
        Edges.alphabetIs("family 3 0;", -8, 9);
        familyIs("sign;sign;family 3 1;", 3);
        familyIs("sign;sign;family 3 0;", NONE);
        familyIs(TWELVE + "family 1 11;", 1);
        Edges.alphabetIs(TWELVE + "family 1 12;", -8, 69);
        familyIs("sign;family 3 0;family 0 0;family 2 0;", 2);
        familyIs("sign;family 2 0;turned 0;", NONE);
        familyIs("sign;family 2 0;mirror 0;", NONE);
    }

    private static void words() {
        Edges.says(3, "\"word\" D (1 to 6 small letters, a for SIGN 0, b for 1, ..: WORDS likewise, 8 at most)");
        Edges.alphabetIs("sign;word ;", -9, 10);
        Edges.alphabetIs("sign;word a;", 1, NONE);
        Edges.alphabetIs("sign;word aaaaaa;", 1, NONE);
        Edges.alphabetIs("sign;word aaaaaaa;", -8, 10);
        Edges.alphabetIs("sign;word b;", -8, 10);
        Edges.alphabetIs("sign;sign;word b;", 2, NONE);
        Edges.alphabetIs("sign;sign;word aaaaac;", -8, 15);
        Edges.alphabetIs(TWELVE + "word l;", 12, NONE);
        Edges.alphabetIs(TWELVE + "word m;", -8, 65);
        Edges.alphabetIs("word a;", -8, 5);
        Edges.alphabetIs("sign;word A;", -9, 10);
        Edges.alphabetIs("sign;word aA;", -9, 11);
        Edges.alphabetIs("sign;" + "word a;".repeat(7), 1, NONE);
        Edges.alphabetIs("sign;" + "word a;".repeat(8), 1, NONE);
        Edges.alphabetIs("sign;" + "word a;".repeat(9), -7, 61);
        CoveredSigns x = Texts.with("sign;sign;" + "word a;".repeat(7) + "word aaaaab;", "");
        Edges.due("eight", x.told(3), 8);
        Edges.due("the last letter of the last", x.word(7, 5), 1);
    }

    /** As many clauses, twelve of which are signs. */
    private static String clauses(int count) {
        return "sign;" + "word a;".repeat(8) + "sign;".repeat(11) + "clean0 0;".repeat(count - 20);
    }

    private static void clauses() {
        Edges.says(3, "An ALPHABET: { CLAUSE \";\" }, at most 60.");
        Edges.alphabetIs("", 0, NONE);
        Edges.alphabetIs(clauses(59), 12, NONE);
        Edges.alphabetIs(clauses(60), 12, NONE);
        Edges.alphabetIs(clauses(60) + " ", 12, NONE);
        Edges.alphabetIs(clauses(61), -7, clauses(60).length());
        for (String clause : new String[] {"sign", "across", "down", "clean", "turned", "mirror", "family", "word", "board"}) {
            Edges.alphabetIs(clauses(60) + "  " + clause, -7, clauses(60).length() + 2);
        }
        String room = "sign;".repeat(11) + "word a;".repeat(7) + "clean0 0;".repeat(41);
        for (String clause : new String[] {"sign;", "across0 0 1;", "down0 0 1;", "clean0 0;", "turned0;", "mirror0;", "family0 0;", "word a;"}) {
            boolean more = clause.equals("sign;") || clause.equals("turned0;") || clause.equals("mirror0;");
            Edges.alphabetIs(room + clause, more ? 12 : 11, NONE);
            Edges.alphabetIs(room + "clean0 0;" + clause, -7, room.length() + 9);
        }
        String board = "board 2 2;" + "sign;".repeat(12) + "clean0 0;".repeat(46) + "clean0 0";
        Edges.alphabetIs(board + ";", 12, NONE);
        Edges.alphabetIs(board + ";sign;", -7, board.length() + 1);
        Edges.alphabetIs(board, -9, board.length());
    }

    private static void cannotStand() {
        Edges.says(3, "1 what can't stand there (at the length, if the text ends too early; a stroke, or clean, ahead of any SIGN)");
        for (String text : new String[] {"s", "sig", "signs", "across0 0 1", "7", ";", "["}) {
            Edges.alphabetIs(text, -9, 0);
            Edges.alphabetIs("sign; " + text.replace("across", "acros"), -9, 6);
        }
        String[] cut = {"sign", "board", "board 2", "board 2 2", "sign;across", "sign;across 0", "sign;across 0 0",
            "sign;across 0 0 1", "sign;down 0 0", "sign;clean", "sign;clean 0", "sign;clean 0 0", "sign;turned",
            "sign;turned 0", "sign;mirror", "sign;mirror 0", "sign;family", "sign;family 0", "sign;family 0 0",
            "sign;word", "sign;word a"};
        for (String text : cut) {
            Edges.alphabetIs(text, -9, text.length());
            Edges.alphabetIs(text + "   ", -9, text.length() + 3);
            Edges.alphabetIs(text + "  *;", -9, text.length() + 2);
        }
        for (String word : new String[] {"across", "down", "clean"}) {
            Edges.alphabetIs(word + " 0 0 1;", -9, 0);
            Edges.alphabetIs("board 2 2; " + word + " 9 9 9;", -9, 11);
            Edges.alphabetIs("board 2 2;sign;" + word + (word.equals("clean") ? " 0 0;" : " 0 0 1;"), 1, NONE);
        }
        for (char mark : new char[] {'`', '{', '@', 'A', '/', ':', 0, 9, 10, 31, 33, 127, 128, 160, 255}) {
            Edges.alphabetIs("sign" + mark + ";", -9, 4);
            Edges.alphabetIs("sign;across 0 0 " + mark + ";", -9, 16);
            Edges.alphabetIs("sign;across 0 0 1" + mark + ";", -9, 17);
            Edges.alphabetIs("sign;word " + mark + ";", -9, 10);
            Edges.alphabetIs("sign;word a" + mark + ";", -9, 11);
            Edges.alphabetIs("sign;" + mark, -9, 5);
            Edges.alphabetIs(mark + "sign;", -9, 0);
        }
        for (String word : new String[] {"board", "sign", "across", "down", "clean", "turned", "mirror", "family", "word"}) {
            for (int at = 0; at < word.length(); at++) {
                StringBuilder other = new StringBuilder(word);
                other.setCharAt(at, word.charAt(at) == 'q' ? 'p' : 'q');
                Edges.alphabetIs("sign;" + other + " 0 0 1;", -9, 5);
                Edges.alphabetIs("sign;" + word + word.substring(at) + " 0 0 1;", -9, 5);
            }
        }
        Edges.alphabetIs("sign;across 0 0 -1;", -9, 16);
        Edges.alphabetIs("sign;across 0 0 +1;", -9, 16);
        Edges.alphabetIs("sign,across 0 0 1;", -9, 4);
        Edges.alphabetIs("sign sign;", -9, 5);
        Edges.alphabetIs("sign;across 0 0 1 1;", -9, 18);
    }

    private static void wrongNumbers() {
        Edges.says(3, "2 a number that is none such (a letter of D that is no SIGN, or a seventh: at D)");
        Edges.alphabetIs("sign;across  6 9 9;", -8, 13);
        Edges.alphabetIs("sign;across 5 9 9;", -8, 14);
        Edges.alphabetIs("sign;across 5 4 9;", -8, 16);
        Edges.alphabetIs("sign;across 5 4 2", -8, 16);
        Edges.alphabetIs("sign;family 4 9;", -8, 12);
        Edges.alphabetIs("sign;word  az;", -8, 11);
        Edges.alphabetIs("sign;word  aaaaaab;", -8, 11);
        Edges.alphabetIs("sign;word  aaaaaaa*", -8, 11);
        Edges.alphabetIs("sign;word b*;", -8, 10);
    }

    private static void tooMany() {
        Edges.says(3, "3 a CLAUSE, SIGN or WORD too many (at its word)");
        Edges.alphabetIs(TWELVE + "  sign", -7, 62);
        Edges.alphabetIs(TWELVE + "turned 99", -7, 60);
        Edges.alphabetIs(TWELVE + "mirror x", -7, 60);
        Edges.alphabetIs("sign;" + "word a;".repeat(8) + " word *", -7, 62);
        Edges.alphabetIs("sign;" + "word a;".repeat(8) + "word zzzzzzz;", -7, 61);
        Edges.alphabetIs("sign;" + "word a;".repeat(8) + "worda;", -9, 61);
    }

    private static void tooLate() {
        Edges.says(3, "4 board too late, or again (at the word)");
        Edges.alphabetIs("sign; board 9 9;", -6, 6);
        Edges.alphabetIs("board 2 2; board", -6, 11);
        Edges.alphabetIs("board 9 2;board 2 2;", -8, 6);
        Edges.alphabetIs("board 2 2 board 2 2;", -9, 10);
    }

    private static void leastOfOne() {
        Edges.says(3, "FAULTS, the first from the left, at its first byte");
        Edges.alphabetIs("sign;across 9 9 9;board", -8, 12);
        Edges.alphabetIs("sign;board 2 2;x", -6, 5);
        Edges.alphabetIs("sign;  signs;", -9, 7);
        Edges.says(3, "of one the least");
        Edges.alphabetIs(clauses(60) + "board 2 2;", -7, clauses(60).length());
        Edges.alphabetIs(clauses(60) + "boards 2 2;", -9, clauses(60).length());
        Edges.alphabetIs(clauses(60) + "7", -9, clauses(60).length());
        Edges.alphabetIs(clauses(60) + ";", -9, clauses(60).length());
        Edges.alphabetIs(clauses(60) + "sign;", -7, clauses(60).length());
    }

    private static void numbers() {
        Edges.says(3, "Numbers: digits, as many as stand there");
        String zeros = "0".repeat(300);
        Edges.alphabetIs("sign;across " + zeros + " 0 1;", 1, NONE);
        boardIs("board " + zeros + "3 02;", 3, 2);
        boardIs("board3 2;", 3, 2);
        Edges.alphabetIs("board 32;", -8, 6);
        String[] wrapped = {"4294967296", "4294967299", "2147483648", "18446744073709551616", "18446744073709551619",
            "1000000000", "9".repeat(400), "10", "13", "1003", "65539", "259"};
        for (String number : wrapped) {
            Edges.alphabetIs("board " + number + " 2;", -8, 6);
            Edges.alphabetIs("board 2 " + number + ";", -8, 8);
            Edges.alphabetIs("sign;across " + number + " 0 1;", -8, 12);
            Edges.alphabetIs("sign;family 0 " + number + ";", -8, 14);
        }
    }

    private static void blanks() {
        Edges.says(3, "WORDS: small letters, as many as stand there; blanks (32) may stand ahead of all these, and at the end.");
        Edges.alphabetIs("   ", 0, NONE);
        Edges.alphabetIs("  board  3   2  ;  sign  ;  across  0  0  3  ;  word  a  ;  ", 1, NONE);
        Edges.alphabetIs("board3 2;sign;across0 0 3;worda;", -9, 26);
        Edges.alphabetIs("boardx 3 2;", -9, 0);
        Edges.alphabetIs("si gn;", -9, 0);
        Edges.alphabetIs("sign;word a a;", -9, 12);
    }

    private static void faultPlaces() {
        Edges.says(5, "The place of the FAULT of the latest text; NONE without.");
        CoveredSigns x = new CoveredSigns();
        Edges.due("without a text", x.fault(), NONE);
        Texts.alphabet(x, "x");
        Edges.due("the first byte", x.fault(), 0);
        Texts.alphabet(x, "sign;");
        Edges.due("without a fault", x.fault(), NONE);
        Texts.feed(x, "sign;" + " ".repeat(494) + "x");
        x.alphabet(500);
        Edges.due("the last byte", x.fault(), 499);
        Texts.feed(x, " ".repeat(500));
        x.rule(500);
        Edges.due("the length", x.fault(), 500);
        Edges.illegal("no text", () -> x.alphabet(1));
        Edges.illegal("no text", () -> x.rule(-1));
        x.dirt(1);
        Edges.due("stays till the next text", x.fault(), 500);
        x.rule(0);
        Edges.due("the length of none", x.fault(), 0);
        x.alphabet(0);
        Edges.due("an alphabet of none", x.fault(), NONE);
    }
}
