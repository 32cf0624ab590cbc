import java.util.Arrays;
import java.util.NoSuchElementException;

/** Signs on boards that are half covered: what is taken for what, and from where. */
public final class CoveredSigns {
    public static final int NONE = -1;

    private static final int TAPE_BYTES = 500;
    private static final int MAX_CLAUSES = 60;
    private static final int MAX_SIGNS = 12;
    private static final int MAX_WORDS = 8;
    private static final int MAX_LETTERS = 6;
    private static final int MAX_CELLS = 30;
    private static final int MAX_COVERS = 500;
    private static final int MAX_DIRT = 3;
    private static final int MAX_FAMILY = 3;
    private static final int MAX_PARTS = 6;
    private static final int MAX_STANDING = 8;
    private static final int MAX_IMAGES = 3;
    private static final int SHIPS = 100;

    private static final int CANNOT_STAND = 1;
    private static final int WRONG_NUMBER = 2;
    private static final int TOO_MANY = 3;
    private static final int TOO_LATE = 4;

    /** Answers that cost much are kept until the alphabet, the rule or d is another. */
    private static final int UNKNOWN = -1000000;
    private static final int KEPT_BLIND = 0;
    private static final int KEPT_CHANGED = 2;
    private static final int KEPT_STEPS = 5;
    private static final int KEPT_BOUND = 7;
    private static final int KEPT_MOST = 8;
    private static final int KEPT_TAKEN = 9;
    private static final int KEPT_LEAST = 10;
    private static final int KEPT_SIZE = KEPT_LEAST + 2 * MAX_SIGNS;

    private final byte[] tape = new byte[TAPE_BYTES];
    private final Scan scan = new Scan(tape);
    private final Alphabet letters = new Alphabet();
    private final AlphabetText alphabetText = new AlphabetText(scan);
    private final Covers covers = new Covers();
    private final RuleText ruleText = new RuleText(scan);
    private final Scene scene = new Scene();
    private final Scene firstImage = new Scene();
    private final Scene secondImage = new Scene();
    private final Scene thirdImage = new Scene();
    private final Tangle tangle = new Tangle(covers);
    private final Repair repair = new Repair(new Tangle(covers));
    private final LeastPart leastPart = new LeastPart();
    private final Codes codes = new Codes();
    private final Outlook outlook = new Outlook();
    private final int[] kept = new int[KEPT_SIZE];
    private boolean isWoven;
    private int tapeSize;
    private int images;

    public CoveredSigns() {
        covers.beOne(0);
        Arrays.fill(kept, UNKNOWN);
    }

    public int feed(int a, int b, int c, int d, int e) {
        if (tapeSize > TAPE_BYTES - 20) {
            return NONE;
        }
        putNumber(a);
        putNumber(b);
        putNumber(c);
        putNumber(d);
        putNumber(e);
        return tapeSize;
    }

    private void putNumber(int number) {
        for (int shift = 24; shift >= 0; shift -= 8) {
            if (tapeSize >= 0 && tapeSize < tape.length) {
                tape[tapeSize] = (byte) (number >> shift);
                tapeSize++;
            }
        }
    }

    public int alphabet(int n) throws IllegalArgumentException {
        needBytes(n);
        scan.begin(n);
        tapeSize = 0;
        if (!alphabetText.parse()) {
            return scan.kind() - 10;
        }
        letters.copyFrom(alphabetText.result());
        covers.beOne(0);
        scene.clear();
        images = 0;
        outlook.spoil();
        renew();
        return letters.signs;
    }

    public int rule(int n) throws IllegalArgumentException {
        needBytes(n);
        scan.begin(n);
        tapeSize = 0;
        if (!ruleText.parse(letters.width, letters.height)) {
            return scan.kind() - 10;
        }
        covers.copyFrom(ruleText.result());
        covers.sort();
        scene.parts = 0;
        renew();
        return covers.size;
    }

    public int fault() {
        return scan.place();
    }

    public int told(int what) throws IllegalArgumentException {
        switch (what) {
            case 0:
                return letters.signs;
            case 1:
                return letters.width;
            case 2:
                return letters.height;
            case 3:
                return letters.words;
            case 4:
                return covers.size;
            case 5:
                return scene.dirt;
            default:
                throw new IllegalArgumentException("what is 0 to 5");
        }
    }

    public int sign(int sign) throws NoSuchElementException {
        needSign(sign);
        return letters.paintOf(sign);
    }

    public int family(int sign) throws NoSuchElementException {
        needSign(sign);
        return letters.familyOf(sign);
    }

    public int word(int word, int place) throws IndexOutOfBoundsException, IllegalArgumentException {
        if (word < 0 || word >= letters.words) {
            throw new IndexOutOfBoundsException("no such word");
        }
        if (place < 0 || place >= MAX_LETTERS) {
            throw new IllegalArgumentException("a place is 0 to 5");
        }
        return letters.letterOf(word, place);
    }

    public int cover(int cover) throws IndexOutOfBoundsException {
        needCover(cover);
        return covers.at(cover);
    }

    public int dirt(int d) throws IllegalArgumentException {
        if (d < 0 || d > MAX_DIRT) {
            throw new IllegalArgumentException("d is 0 to 3");
        }
        int before = scene.dirt;
        scene.dirt = d;
        if (d != before) {
            renew();
        }
        return before;
    }

    public int confused(int sign, int other) throws NoSuchElementException, IllegalArgumentException {
        needSign(sign);
        needSign(other);
        if (sign == other) {
            throw new IllegalArgumentException("one sign is not confused with itself");
        }
        return covers.firstMixing(letters.paintOf(sign) ^ letters.paintOf(other), 2 * scene.dirt);
    }

    public int confusions() {
        weave();
        return tangle.pairs;
    }

    public int blind(int what) throws IllegalArgumentException {
        needWhat(what, 1);
        if (keptAt(KEPT_BLIND) == UNKNOWN) {
            int cover = covers.blindest(letters, 2 * scene.dirt);
            keep(KEPT_BLIND, cover);
            keep(KEPT_BLIND + 1, covers.pairsMixedBy(cover, letters, 2 * scene.dirt));
        }
        return keptAt(KEPT_BLIND + what);
    }

    public int may(int cover, int paint) throws IndexOutOfBoundsException, IllegalArgumentException {
        needPart(cover, paint);
        return letters.within(covers.at(cover), paint, scene.dirt);
    }

    public int read(int cover, int paint) throws IndexOutOfBoundsException, IllegalArgumentException {
        needPart(cover, paint);
        return onlyOne(letters.within(covers.at(cover), paint, scene.dirt));
    }

    public int nearest(int cover, int paint) throws IndexOutOfBoundsException, IllegalArgumentException {
        needPart(cover, paint);
        return letters.likest(covers.at(cover), paint);
    }

    public int part(int cover, int paint) throws IndexOutOfBoundsException, IllegalArgumentException {
        needPart(cover, paint);
        return scene.addPart(covers.at(cover), paint);
    }

    public int forget() {
        int gone = scene.parts;
        scene.parts = 0;
        return gone;
    }

    public int words() {
        int open = 0;
        for (int word = 0; word < letters.words; word++) {
            if (letters.lengthOf(word) == scene.parts && rowMayBe(word)) {
                open |= 1 << word;
            }
        }
        return open;
    }

    public int sure(int place) {
        int open = words();
        if (place < 0 || place >= scene.parts || open == 0) {
            return NONE;
        }
        int found = NONE;
        for (int word = 0; word < letters.words; word++) {
            if ((open >> word & 1) != 0) {
                int letter = letters.letterOf(word, place);
                if (found != NONE && letter != found) {
                    return NONE;
                }
                found = letter;
            }
        }
        return found;
    }

    public int least(int sign, int what) throws NoSuchElementException, IllegalArgumentException {
        needSign(sign);
        needWhat(what, 1);
        int slot = KEPT_LEAST + 2 * sign;
        if (keptAt(slot) == UNKNOWN) {
            boolean found = leastPart.find(letters, sign, 2 * scene.dirt + 1);
            keep(slot, found ? Integer.bitCount(leastPart.cells) : NONE);
            keep(slot + 1, found ? leastPart.cells : NONE);
        }
        return keptAt(slot + what);
    }

    public int strokes(int sign) throws NoSuchElementException {
        needSign(sign);
        return letters.fewestRows(letters.paintOf(sign));
    }

    public int akin(int family, int what) throws IllegalArgumentException {
        if (family < 0 || family > MAX_FAMILY) {
            throw new IllegalArgumentException("a family is 0 to 3");
        }
        needWhat(what, 1);
        int pair = letters.unlikestPair(family);
        if (pair == NONE || what == 0) {
            return pair;
        }
        return letters.unlikeCells(pair / 100, pair % 100);
    }

    public int strangers() {
        int bits = 0;
        for (int sign = 0; sign < letters.signs; sign++) {
            if (letters.isStranger(sign)) {
                bits |= 1 << sign;
            }
        }
        return bits;
    }

    public int changed(int what) throws IllegalArgumentException {
        needWhat(what, 2);
        if (keptAt(KEPT_CHANGED) == UNKNOWN) {
            weave();
            repair.find(tangle);
            keep(KEPT_CHANGED, repair.count);
            keep(KEPT_CHANGED + 1, repair.first);
            keep(KEPT_CHANGED + 2, repair.second);
        }
        return keptAt(KEPT_CHANGED + what);
    }

    public int bound() {
        if (keptAt(KEPT_BOUND) == UNKNOWN) {
            weave();
            keep(KEPT_BOUND, tangle.mostApartPairs());
        }
        return keptAt(KEPT_BOUND);
    }

    public int steps(int what) throws IllegalArgumentException {
        needWhat(what, 1);
        if (keptAt(KEPT_STEPS) == UNKNOWN) {
            weave();
            keep(KEPT_STEPS, repair.walk(tangle));
            keep(KEPT_STEPS + 1, repair.pairsLeft());
        }
        return keptAt(KEPT_STEPS + what);
    }

    public int most() {
        if (keptAt(KEPT_MOST) == UNKNOWN) {
            keep(KEPT_MOST, codes.largest(covers, letters.cells(), scene.dirt));
        }
        return keptAt(KEPT_MOST);
    }

    public int taken() {
        if (keptAt(KEPT_TAKEN) == UNKNOWN) {
            keep(KEPT_TAKEN, codes.rowByRow(covers, letters.cells(), scene.dirt));
        }
        return keptAt(KEPT_TAKEN);
    }

    public int stand(int sign, int x, int y) throws NoSuchElementException, IllegalArgumentException {
        needSign(sign);
        if (x < 0 || x > 99 || y < 1 || y > 99) {
            throw new IllegalArgumentException("x is 0 to 99, y 1 to 99");
        }
        outlook.spoil();
        return scene.addStanding(sign, x, y);
    }

    public int leave() {
        int gone = scene.standing;
        scene.standing = 0;
        outlook.spoil();
        return gone;
    }

    public int seen(int board, int s, boolean so) throws IndexOutOfBoundsException, IllegalArgumentException {
        needView(board, s);
        return outlook.columns(scene, letters.width, board, s, so);
    }

    public int guess(int board, int s, boolean so) throws IndexOutOfBoundsException, IllegalArgumentException {
        needView(board, s);
        return guessBits(board, s, so);
    }

    public int known(int board, boolean so) throws IndexOutOfBoundsException {
        needStanding(board);
        for (int s = 0; s < SHIPS; s++) {
            if (isKnown(board, s, so)) {
                return s;
            }
        }
        return NONE;
    }

    public int all(boolean so) {
        for (int s = 0; s < SHIPS; s++) {
            int known = 0;
            while (known < scene.standing && isKnown(known, s, so)) {
                known++;
            }
            if (known == scene.standing) {
                return s;
            }
        }
        return NONE;
    }

    public int voyage(boolean so) {
        if (scene.standing < 1 || scene.standing > MAX_LETTERS || !standingIsTold()) {
            return NONE;
        }
        for (int s = 0; s < SHIPS; s++) {
            if (wordIsKnown(s, so)) {
                return s;
            }
        }
        return NONE;
    }

    public int image() {
        if (images >= MAX_IMAGES) {
            return NONE;
        }
        imageAt(images).copyFrom(scene);
        images++;
        return images;
    }

    public int restore() {
        if (images <= 0) {
            return NONE;
        }
        images--;
        scene.copyFrom(imageAt(images));
        outlook.spoil();
        renew();
        return images;
    }

    public int count(int what) {
        switch (what) {
            case 0:
                return scene.parts;
            case 1:
                return scene.standing;
            case 2:
                return images;
            case 3:
                return tapeSize;
            default:
                return NONE;
        }
    }

    private void needBytes(int n) {
        if (n < 0 || n > tapeSize) {
            throw new IllegalArgumentException("n is 0 to the bytes of the tape");
        }
    }

    private void needSign(int sign) {
        if (sign < 0 || sign >= letters.signs) {
            throw new NoSuchElementException("no such sign");
        }
    }

    private void needCover(int cover) {
        if (cover < 0 || cover >= covers.size) {
            throw new IndexOutOfBoundsException("no such cover");
        }
    }

    private void needPart(int cover, int paint) {
        needCover(cover);
        if ((paint & ~letters.board()) != 0) {
            throw new IllegalArgumentException("paint beside the board");
        }
    }

    private void needStanding(int board) {
        if (board < 0 || board >= scene.standing) {
            throw new IndexOutOfBoundsException("no such standing one");
        }
    }

    private void needView(int board, int s) {
        needStanding(board);
        if (s < 0 || s >= SHIPS) {
            throw new IllegalArgumentException("s is 0 to 99");
        }
    }

    private void needWhat(int what, int top) {
        if (what < 0 || what > top) {
            throw new IllegalArgumentException("no such what");
        }
    }

    private void renew() {
        Arrays.fill(kept, UNKNOWN);
        isWoven = false;
    }

    private void weave() {
        if (!isWoven) {
            tangle.weave(letters, 2 * scene.dirt);
            isWoven = true;
        }
    }

    private int keptAt(int slot) {
        return slot >= 0 && slot < kept.length ? kept[slot] : NONE;
    }

    private void keep(int slot, int answer) {
        if (slot >= 0 && slot < kept.length) {
            kept[slot] = answer;
        }
    }

    private Scene imageAt(int image) {
        if (image <= 0) {
            return firstImage;
        }
        return image == 1 ? secondImage : thirdImage;
    }

    private static int onlyOne(int bits) {
        if (Integer.bitCount(bits) != 1) {
            return NONE;
        }
        return lowestOf(bits);
    }

    private static int lowestOf(int bits) {
        return Integer.bitCount((bits & -bits) - 1);
    }

    private boolean rowMayBe(int word) {
        for (int place = 0; place < scene.parts; place++) {
            int open = letters.within(scene.hiddenOf(place), scene.paintOf(place), scene.dirt);
            if ((open >> letters.letterOf(word, place) & 1) == 0) {
                return false;
            }
        }
        return true;
    }

    private int guessBits(int board, int s, boolean so) {
        int columns = outlook.columns(scene, letters.width, board, s, so);
        int hidden = letters.board() & ~letters.columnCells(columns);
        return letters.within(hidden, letters.paintOf(scene.signOf(board)), scene.dirt);
    }

    private boolean isKnown(int board, int s, boolean so) {
        return guessBits(board, s, so) == 1 << scene.signOf(board);
    }

    private boolean standingIsTold() {
        for (int word = 0; word < letters.words; word++) {
            if (letters.lengthOf(word) == scene.standing && standingSpells(word)) {
                return true;
            }
        }
        return false;
    }

    private boolean standingSpells(int word) {
        for (int board = 0; board < scene.standing; board++) {
            if (letters.letterOf(word, board) != scene.signOf(board)) {
                return false;
            }
        }
        return true;
    }

    private boolean wordIsKnown(int s, boolean so) {
        for (int word = 0; word < letters.words; word++) {
            if (letters.lengthOf(word) == scene.standing && !standingSpells(word) && standingMayBe(word, s, so)) {
                return false;
            }
        }
        return true;
    }

    private boolean standingMayBe(int word, int s, boolean so) {
        for (int board = 0; board < scene.standing; board++) {
            if ((guessBits(board, s, so) >> letters.letterOf(word, board) & 1) == 0) {
                return false;
            }
        }
        return true;
    }

    /** Goes through a text from the left and keeps its fault. */
    private static final class Scan {
        private final byte[] text;
        private int length;
        private int at;
        private int kind;
        private int place = NONE;

        Scan(byte[] text) {
            this.text = text == null ? new byte[0] : text;
        }

        void begin(int bytes) {
            length = Math.max(0, Math.min(bytes, text.length));
            at = 0;
            kind = 0;
            place = NONE;
        }

        int kind() {
            return kind;
        }

        int place() {
            return place;
        }

        int length() {
            return length;
        }

        /** Answers false, so that it can end the reading at once. */
        boolean blame(int fault, int where) {
            if (kind == 0) {
                kind = fault;
                place = where;
            }
            return false;
        }

        /** Where the next thing begins, or the length. */
        int next() {
            while (at >= 0 && at < length && at < text.length && text[at] == ' ') {
                at++;
            }
            return at;
        }

        boolean ended() {
            return next() >= length;
        }

        boolean takesMark(char mark) {
            if (byteAt(next()) != mark) {
                return false;
            }
            at++;
            return true;
        }

        boolean needsMark(char mark) {
            return takesMark(mark) || blame(CANNOT_STAND, at);
        }

        /** Small letters are taken as many as stand there: "ora" is no "or". */
        boolean takesWord(String word) {
            int begin = next();
            if (lettersFrom(begin) != word.length()) {
                return false;
            }
            for (int i = 0; i < word.length(); i++) {
                if (byteAt(begin + i) != word.charAt(i)) {
                    return false;
                }
            }
            at = begin + word.length();
            return true;
        }

        /** How many small letters stand from a place on. */
        int lettersFrom(int begin) {
            int end = begin;
            while (end < length && byteAt(end) >= 'a' && byteAt(end) <= 'z') {
                end++;
            }
            return end - begin;
        }

        void jump(int where) {
            at = Math.max(0, Math.min(where, length));
        }

        int byteAt(int where) {
            if (where < 0 || where >= length || where >= text.length) {
                return NONE;
            }
            return text[where] & 255;
        }

        /** NONE, and a fault, if no number from low to high stands there. */
        int number(int low, int high) {
            int begin = next();
            int value = 0;
            for (; at < length && byteAt(at) >= '0' && byteAt(at) <= '9'; at++) {
                value = Math.min(1000, value * 10 + byteAt(at) - '0');
            }
            if (at == begin) {
                blame(CANNOT_STAND, begin);
                return NONE;
            }
            if (value < low || value > high) {
                blame(WRONG_NUMBER, begin);
                return NONE;
            }
            return value;
        }
    }

    /** A board, its signs with their families, and words. */
    private static final class Alphabet {
        private int width = 6;
        private int height = 5;
        private int signs;
        private int words;
        private final int[] paint = new int[MAX_SIGNS];
        private final int[] family = new int[MAX_SIGNS];
        private final int[] letter = new int[MAX_WORDS * MAX_LETTERS];
        private final int[] length = new int[MAX_WORDS];
        private final int[] across = new int[MAX_CELLS];
        private final int[] down = new int[MAX_CELLS];
        private final int[] partner = new int[MAX_CELLS];
        private int tried;

        void clear() {
            width = 6;
            height = 5;
            signs = 0;
            words = 0;
        }

        void copyFrom(Alphabet other) {
            if (other == null) {
                return;
            }
            width = other.width;
            height = other.height;
            signs = other.signs;
            words = other.words;
            System.arraycopy(other.paint, 0, paint, 0, MAX_SIGNS);
            System.arraycopy(other.family, 0, family, 0, MAX_SIGNS);
            System.arraycopy(other.letter, 0, letter, 0, MAX_WORDS * MAX_LETTERS);
            System.arraycopy(other.length, 0, length, 0, MAX_WORDS);
        }

        int cells() {
            return width * height;
        }

        int board() {
            return (1 << cells()) - 1;
        }

        boolean has(int sign) {
            return sign >= 0 && sign < signs && sign < MAX_SIGNS;
        }

        int paintOf(int sign) {
            return has(sign) ? paint[sign] : 0;
        }

        int familyOf(int sign) {
            return has(sign) ? family[sign] : NONE;
        }

        int lengthOf(int word) {
            return word >= 0 && word < words && word < MAX_WORDS ? length[word] : 0;
        }

        /** NONE behind the word's end. */
        int letterOf(int word, int place) {
            if (place < 0 || place >= lengthOf(word) || place >= MAX_LETTERS) {
                return NONE;
            }
            return letter[word * MAX_LETTERS + place];
        }

        boolean addSign(int cells) {
            if (signs < 0 || signs >= MAX_SIGNS) {
                return false;
            }
            paint[signs] = cells;
            family[signs] = NONE;
            signs++;
            return true;
        }

        void setFamily(int sign, int told) {
            if (has(sign)) {
                family[sign] = told;
            }
        }

        void setLatest(int cells) {
            if (has(signs - 1)) {
                paint[signs - 1] = cells;
            }
        }

        boolean addLetter(int place, int sign) {
            if (words < 0 || words >= MAX_WORDS || place < 0 || place >= MAX_LETTERS) {
                return false;
            }
            letter[words * MAX_LETTERS + place] = sign;
            return true;
        }

        boolean endWord(int letters) {
            if (words < 0 || words >= MAX_WORDS) {
                return false;
            }
            length[words] = letters;
            words++;
            return true;
        }

        int halfTurned(int cells) {
            int turned = 0;
            int last = cells() - 1;
            for (int cell = 0; cell <= last; cell++) {
                if ((cells >> cell & 1) != 0) {
                    turned |= 1 << (last - cell);
                }
            }
            return turned;
        }

        int mirrored(int cells) {
            int mirrored = 0;
            for (int y = 0; y < height; y++) {
                for (int x = 0; x < width; x++) {
                    if ((cells >> (width * y + x) & 1) != 0) {
                        mirrored |= 1 << (width * y + width - 1 - x);
                    }
                }
            }
            return mirrored;
        }

        int columnCells(int columns) {
            int cells = 0;
            for (int y = 0; y < height; y++) {
                cells |= (columns & ((1 << width) - 1)) << (width * y);
            }
            return cells;
        }

        /** The signs of which at most dirt seen cells are unlike, as bits. */
        int within(int hidden, int seenPaint, int dirt) {
            int bits = 0;
            for (int sign = 0; sign < signs; sign++) {
                if (Integer.bitCount((seenPaint ^ paintOf(sign)) & ~hidden) <= dirt) {
                    bits |= 1 << sign;
                }
            }
            return bits;
        }

        int likest(int hidden, int seenPaint) {
            int best = NONE;
            int fewest = MAX_CELLS + 1;
            for (int sign = 0; sign < signs; sign++) {
                int unlike = Integer.bitCount((seenPaint ^ paintOf(sign)) & ~hidden);
                if (unlike < fewest) {
                    fewest = unlike;
                    best = sign;
                }
            }
            return best;
        }

        int unlikeCells(int one, int other) {
            return Integer.bitCount(paintOf(one) ^ paintOf(other));
        }

        int unlikestPair(int told) {
            int best = NONE;
            int farthest = NONE;
            for (int one = 0; one < signs; one++) {
                for (int other = one + 1; other < signs; other++) {
                    if (familyOf(one) == told && familyOf(other) == told && unlikeCells(one, other) > farthest) {
                        farthest = unlikeCells(one, other);
                        best = 100 * one + other;
                    }
                }
            }
            return best;
        }

        boolean isStranger(int sign) {
            int own = MAX_CELLS + 1;
            int foreign = MAX_CELLS + 1;
            for (int other = 0; other < signs; other++) {
                if (other != sign && familyOf(other) == familyOf(sign)) {
                    own = Math.min(own, unlikeCells(sign, other));
                } else if (other != sign) {
                    foreign = Math.min(foreign, unlikeCells(sign, other));
                }
            }
            return familyOf(sign) != NONE && own <= MAX_CELLS && foreign < own;
        }

        /** Rows across and down that share a cell, paired off: as many pairs as rows are needed. */
        int fewestRows(int cells) {
            numberRows(cells);
            Arrays.fill(partner, NONE);
            int pairs = 0;
            for (int row = 0; row < MAX_CELLS; row++) {
                tried = 0;
                if (findsPartner(cells, row, 0)) {
                    pairs++;
                }
            }
            return pairs;
        }

        /** Each cell gets the number of the row across, and of the row down, that it is in. */
        private void numberRows(int cells) {
            int rows = 0;
            int columns = 0;
            for (int y = 0; y < height; y++) {
                for (int x = 0; x < width; x++) {
                    int cell = width * y + x;
                    boolean painted = (cells >> cell & 1) != 0;
                    if (!painted || cell < 0 || cell >= MAX_CELLS) {
                        continue;
                    }
                    boolean goesOnAcross = x > 0 && (cells >> (cell - 1) & 1) != 0;
                    across[cell] = goesOnAcross && cell >= 1 ? across[cell - 1] : rows++;
                    boolean goesOnDown = y > 0 && cell >= width && (cells >> (cell - width) & 1) != 0;
                    down[cell] = goesOnDown ? down[cell - width] : columns++;
                }
            }
        }

        private boolean findsPartner(int cells, int row, int depth) {
            if (depth > MAX_CELLS) {
                return false;
            }
            for (int cell = 0; cell < MAX_CELLS; cell++) {
                if ((cells >> cell & 1) == 0 || across[cell] != row) {
                    continue;
                }
                int column = down[cell];
                if (column < 0 || column >= MAX_CELLS || (tried >> column & 1) != 0) {
                    continue;
                }
                tried |= 1 << column;
                if (partner[column] == NONE || findsPartner(cells, partner[column], depth + 1)) {
                    partner[column] = row;
                    return true;
                }
            }
            return false;
        }
    }

    /** Reads the text of an alphabet into a draft, so that a fault leaves the old one alone. */
    private static final class AlphabetText {
        private final Scan scan;
        private final Alphabet draft = new Alphabet();

        AlphabetText(Scan scan) {
            this.scan = scan;
        }

        Alphabet result() {
            return draft;
        }

        boolean parse() {
            draft.clear();
            for (int ahead = 0; ahead <= MAX_CLAUSES; ahead++) {
                if (scan.ended()) {
                    return true;
                }
                if (!clause(ahead) || !scan.needsMark(';')) {
                    return false;
                }
            }
            return false;
        }

        private boolean clause(int ahead) {
            int place = scan.next();
            if (scan.takesWord("board")) {
                return hasRoom(ahead, place) && size(ahead, place);
            }
            if (scan.takesWord("sign")) {
                return hasRoom(ahead, place) && (draft.addSign(0) || scan.blame(TOO_MANY, place));
            }
            if (scan.takesWord("across")) {
                return hasLatest(place) && hasRoom(ahead, place) && stroke(true);
            }
            if (scan.takesWord("down")) {
                return hasLatest(place) && hasRoom(ahead, place) && stroke(false);
            }
            if (scan.takesWord("clean")) {
                return hasLatest(place) && hasRoom(ahead, place) && clean();
            }
            if (scan.takesWord("turned")) {
                return hasRoom(ahead, place) && oneMore(place, true);
            }
            if (scan.takesWord("mirror")) {
                return hasRoom(ahead, place) && oneMore(place, false);
            }
            if (scan.takesWord("family")) {
                return hasRoom(ahead, place) && kin();
            }
            if (scan.takesWord("word")) {
                return hasRoom(ahead, place) && spelling(place);
            }
            return scan.blame(CANNOT_STAND, place);
        }

        private boolean hasRoom(int ahead, int place) {
            return ahead < MAX_CLAUSES || scan.blame(TOO_MANY, place);
        }

        private boolean hasLatest(int place) {
            return draft.signs > 0 || scan.blame(CANNOT_STAND, place);
        }

        private boolean size(int ahead, int place) {
            if (ahead > 0) {
                return scan.blame(TOO_LATE, place);
            }
            int width = scan.number(2, 6);
            if (width == NONE) {
                return false;
            }
            int height = scan.number(2, 5);
            if (height == NONE) {
                return false;
            }
            draft.width = width;
            draft.height = height;
            return true;
        }

        private boolean stroke(boolean isAcross) {
            int x = scan.number(0, draft.width - 1);
            if (x == NONE) {
                return false;
            }
            int y = scan.number(0, draft.height - 1);
            if (y == NONE) {
                return false;
            }
            int n = scan.number(1, isAcross ? draft.width - x : draft.height - y);
            if (n == NONE) {
                return false;
            }
            int cells = draft.paintOf(draft.signs - 1);
            for (int i = 0; i < n; i++) {
                cells |= isAcross ? 1 << (draft.width * y + x + i) : 1 << (draft.width * (y + i) + x);
            }
            draft.setLatest(cells);
            return true;
        }

        private boolean clean() {
            int x = scan.number(0, draft.width - 1);
            if (x == NONE) {
                return false;
            }
            int y = scan.number(0, draft.height - 1);
            if (y == NONE) {
                return false;
            }
            draft.setLatest(draft.paintOf(draft.signs - 1) & ~(1 << (draft.width * y + x)));
            return true;
        }

        private boolean oneMore(int place, boolean isTurned) {
            if (draft.signs >= MAX_SIGNS) {
                return scan.blame(TOO_MANY, place);
            }
            int sign = scan.number(0, draft.signs - 1);
            if (sign == NONE) {
                return false;
            }
            int cells = draft.paintOf(sign);
            return draft.addSign(isTurned ? draft.halfTurned(cells) : draft.mirrored(cells));
        }

        private boolean kin() {
            int told = scan.number(0, MAX_FAMILY);
            if (told == NONE) {
                return false;
            }
            int sign = scan.number(0, draft.signs - 1);
            if (sign == NONE) {
                return false;
            }
            draft.setFamily(sign, told);
            return true;
        }

        private boolean spelling(int place) {
            if (draft.words >= MAX_WORDS) {
                return scan.blame(TOO_MANY, place);
            }
            int begin = scan.next();
            int count = scan.lettersFrom(begin);
            if (count == 0) {
                return scan.blame(CANNOT_STAND, begin);
            }
            if (count > MAX_LETTERS) {
                return scan.blame(WRONG_NUMBER, begin);
            }
            for (int i = 0; i < count; i++) {
                int sign = scan.byteAt(begin + i) - 'a';
                if (!draft.has(sign) || !draft.addLetter(i, sign)) {
                    return scan.blame(WRONG_NUMBER, begin);
                }
            }
            scan.jump(begin + count);
            return draft.endWord(count);
        }
    }

    /** A set of covers; those of the rule in force stand in order. */
    private static final class Covers {
        private final int[] cells = new int[MAX_COVERS];
        private int size;

        int at(int cover) {
            return cover >= 0 && cover < size && cover < MAX_COVERS ? cells[cover] : 0;
        }

        void beOne(int cover) {
            cells[0] = cover;
            size = 1;
        }

        boolean add(int cover) {
            if (size < 0 || size >= MAX_COVERS) {
                return false;
            }
            cells[size] = cover;
            size++;
            return true;
        }

        void copyFrom(Covers other) {
            if (other != null) {
                size = Math.max(0, Math.min(other.size, MAX_COVERS));
                System.arraycopy(other.cells, 0, cells, 0, size);
            }
        }

        private static boolean isBefore(int cover, int other) {
            int difference = Integer.bitCount(cover) - Integer.bitCount(other);
            return difference < 0 || (difference == 0 && cover < other);
        }

        void sort() {
            for (int gap = 364; gap > 0; gap /= 3) {
                for (int i = gap; i < size && i < MAX_COVERS; i++) {
                    int moving = cells[i];
                    int to = i;
                    while (to >= gap && isBefore(moving, cells[to - gap])) {
                        cells[to] = cells[to - gap];
                        to -= gap;
                    }
                    cells[to] = moving;
                }
            }
        }

        /** The first cover that leaves at most slack of the unlike cells to be seen. */
        int firstMixing(int unlike, int slack) {
            for (int i = 0; i < size && i < MAX_COVERS; i++) {
                if (Integer.bitCount(unlike & ~cells[i]) <= slack) {
                    return i;
                }
            }
            return NONE;
        }

        /** The cells of which any one may be changed in one of two signs, and some cover still mixes them. */
        int mixingCells(int unlike, int slack, int board) {
            int mixing = 0;
            for (int i = 0; i < size && i < MAX_COVERS && mixing != board; i++) {
                int count = Integer.bitCount(unlike & ~cells[i]);
                if (count < slack) {
                    mixing = board;
                } else if (count == slack) {
                    mixing |= cells[i] | unlike;
                } else if (count == slack + 1) {
                    mixing |= unlike & ~cells[i];
                }
            }
            return mixing;
        }

        int pairsMixedBy(int cover, Alphabet letters, int slack) {
            int hidden = at(cover);
            int pairs = 0;
            for (int one = 0; one < letters.signs; one++) {
                for (int other = one + 1; other < letters.signs; other++) {
                    int unlike = letters.paintOf(one) ^ letters.paintOf(other);
                    if (Integer.bitCount(unlike & ~hidden) <= slack) {
                        pairs++;
                    }
                }
            }
            return pairs;
        }

        int blindest(Alphabet letters, int slack) {
            int best = 0;
            int mostPairs = 0;
            for (int cover = 0; cover < size; cover++) {
                int pairs = pairsMixedBy(cover, letters, slack);
                if (pairs > mostPairs) {
                    mostPairs = pairs;
                    best = cover;
                }
            }
            return best;
        }

        int largest() {
            int most = 0;
            for (int i = 0; i < size && i < MAX_COVERS; i++) {
                most = Math.max(most, Integer.bitCount(cells[i]));
            }
            return most;
        }
    }

    /** Reads the text of a rule; each part of it has a set of covers on a stack. */
    private static final class RuleText {
        private static final int MAX_OPEN = 6;
        private static final int LEVELS = 2 * MAX_OPEN + 3;
        private static final int HASH_SIZE = 1024;

        private final Scan scan;
        private final Covers[] stack = new Covers[LEVELS];
        private final Covers spare = new Covers();
        private final int[] hash = new int[HASH_SIZE];
        private int width;
        private int height;
        private boolean over;

        RuleText(Scan scan) {
            this.scan = scan;
            for (int level = 0; level < LEVELS; level++) {
                stack[level] = new Covers();
            }
        }

        /** Of a level that is none, a set that nothing depends on. */
        private Covers at(int level) {
            if (level < 0 || level >= stack.length || stack[level] == null) {
                return spare;
            }
            return stack[level];
        }

        Covers result() {
            return at(0);
        }

        boolean parse(int boardWidth, int boardHeight) {
            width = boardWidth;
            height = boardHeight;
            over = false;
            if (!choice(0, 0)) {
                return false;
            }
            if (!scan.ended()) {
                return scan.blame(CANNOT_STAND, scan.next());
            }
            return !over || scan.blame(TOO_LATE, scan.length());
        }

        private boolean choice(int open, int level) {
            if (!both(open, level)) {
                return false;
            }
            for (int more = 0; more < TAPE_BYTES; more++) {
                if (!scan.takesWord("or")) {
                    return true;
                }
                if (!both(open, level + 1)) {
                    return false;
                }
                unite(at(level), at(level + 1));
            }
            return true;
        }

        private boolean both(int open, int level) {
            if (!single(open, level)) {
                return false;
            }
            for (int more = 0; more < TAPE_BYTES; more++) {
                if (!scan.takesWord("and")) {
                    return true;
                }
                if (!single(open, level + 1)) {
                    return false;
                }
                overlay(at(level), at(level + 1));
            }
            return true;
        }

        private boolean single(int open, int level) {
            int place = scan.next();
            if (scan.takesMark('[')) {
                if (open >= MAX_OPEN) {
                    return scan.blame(TOO_MANY, place);
                }
                return choice(open + 1, level) && scan.needsMark(']');
            }
            if (scan.takesWord("not")) {
                if (open >= MAX_OPEN) {
                    return scan.blame(TOO_MANY, place);
                }
                return single(open + 1, level) && complement(at(level));
            }
            if (scan.takesWord("side")) {
                return side(at(level));
            }
            if (scan.takesWord("corner")) {
                return corner(at(level));
            }
            if (scan.takesWord("any")) {
                return any(at(level));
            }
            if (scan.takesWord("front")) {
                return front(at(level));
            }
            if (scan.takesWord("fog")) {
                return fog(at(level));
            }
            return scan.blame(CANNOT_STAND, place);
        }

        private boolean side(Covers into) {
            int side = scan.number(0, 3);
            if (side == NONE) {
                return false;
            }
            int n = scan.number(1, side < 2 ? width : height);
            if (n == NONE) {
                return false;
            }
            if (side < 2) {
                into.beOne(block(side == 0 ? 0 : width - n, 0, n, height));
            } else {
                into.beOne(block(0, side == 2 ? 0 : height - n, width, n));
            }
            return true;
        }

        private boolean corner(Covers into) {
            int corner = scan.number(0, 3);
            if (corner == NONE) {
                return false;
            }
            int n = scan.number(1, Math.min(width, height));
            if (n == NONE) {
                return false;
            }
            into.beOne(block((corner & 1) == 0 ? 0 : width - n, corner < 2 ? 0 : height - n, n, n));
            return true;
        }

        private boolean front(Covers into) {
            int x = scan.number(0, width - 1);
            if (x == NONE) {
                return false;
            }
            int y = scan.number(0, height - 1);
            if (y == NONE) {
                return false;
            }
            int w = scan.number(1, width - x);
            if (w == NONE) {
                return false;
            }
            int h = scan.number(1, height - y);
            if (h == NONE) {
                return false;
            }
            into.beOne(block(x, y, w, h));
            return true;
        }

        private boolean fog(Covers into) {
            int parity = scan.number(0, 1);
            if (parity == NONE) {
                return false;
            }
            int cells = 0;
            for (int y = 0; y < height; y++) {
                for (int x = 0; x < width; x++) {
                    if (((x + y) & 1) == parity) {
                        cells |= 1 << (width * y + x);
                    }
                }
            }
            into.beOne(cells);
            return true;
        }

        private boolean any(Covers into) {
            int n = scan.number(0, 3);
            if (n == NONE) {
                return false;
            }
            into.size = 0;
            int cells = width * height;
            for (int a = 0; a < (n > 0 ? cells : 1); a++) {
                for (int b = n > 1 ? a + 1 : 0; b < (n > 1 ? cells : 1); b++) {
                    for (int c = n > 2 ? b + 1 : 0; c < (n > 2 ? cells : 1); c++) {
                        int set = (n > 0 ? 1 << a : 0) | (n > 1 ? 1 << b : 0) | (n > 2 ? 1 << c : 0);
                        over |= !into.add(set);
                    }
                }
            }
            return true;
        }

        private int block(int x, int y, int w, int h) {
            int cells = 0;
            for (int row = y; row < y + h; row++) {
                cells |= ((1 << w) - 1) << (width * row + x);
            }
            return cells;
        }

        private boolean complement(Covers set) {
            int board = (1 << (width * height)) - 1;
            for (int i = 0; i < set.size && i < MAX_COVERS; i++) {
                set.cells[i] = board & ~set.cells[i];
            }
            return true;
        }

        private void unite(Covers left, Covers right) {
            if (over) {
                return;
            }
            beginSpare();
            for (int i = 0; i < left.size && !over; i++) {
                addOnce(left.at(i));
            }
            for (int i = 0; i < right.size && !over; i++) {
                addOnce(right.at(i));
            }
            left.copyFrom(spare);
        }

        /** Where one hides nearly all, most of the others add nothing: the same comes again and again. */
        private void overlay(Covers left, Covers right) {
            if (over) {
                return;
            }
            beginSpare();
            for (int i = 0; i < left.size && !over; i++) {
                int one = left.at(i);
                int latest = NONE;
                for (int j = 0; j < right.size && !over; j++) {
                    int both = one | right.at(j);
                    if (both != latest) {
                        addOnce(both);
                        latest = both;
                    }
                }
            }
            left.copyFrom(spare);
        }

        private void beginSpare() {
            spare.size = 0;
            Arrays.fill(hash, NONE);
        }

        /** Open addressing: twice as many places as covers, so a free one is always found. */
        private void addOnce(int cover) {
            int place = (cover * 0x9E3779B1 >>> 22) & (HASH_SIZE - 1);
            for (int turn = 0; turn < HASH_SIZE; turn++) {
                if (hash[place] == cover) {
                    return;
                }
                if (hash[place] == NONE) {
                    hash[place] = cover;
                    over |= !spare.add(cover);
                    return;
                }
                place = (place + 1) & (HASH_SIZE - 1);
            }
        }
    }

    /** What an image holds: d, the parts of the row, the standing ones. */
    private static final class Scene {
        private int dirt;
        private int parts;
        private int standing;
        private final int[] hidden = new int[MAX_PARTS];
        private final int[] paint = new int[MAX_PARTS];
        private final int[] sign = new int[MAX_STANDING];
        private final int[] left = new int[MAX_STANDING];
        private final int[] far = new int[MAX_STANDING];

        void clear() {
            dirt = 0;
            parts = 0;
            standing = 0;
        }

        void copyFrom(Scene other) {
            if (other == null) {
                return;
            }
            dirt = other.dirt;
            parts = other.parts;
            standing = other.standing;
            System.arraycopy(other.hidden, 0, hidden, 0, MAX_PARTS);
            System.arraycopy(other.paint, 0, paint, 0, MAX_PARTS);
            System.arraycopy(other.sign, 0, sign, 0, MAX_STANDING);
            System.arraycopy(other.left, 0, left, 0, MAX_STANDING);
            System.arraycopy(other.far, 0, far, 0, MAX_STANDING);
        }

        int addPart(int cover, int seenPaint) {
            if (parts < 0 || parts >= MAX_PARTS) {
                return NONE;
            }
            hidden[parts] = cover;
            paint[parts] = seenPaint;
            parts++;
            return parts;
        }

        int addStanding(int told, int x, int y) {
            if (standing < 0 || standing >= MAX_STANDING) {
                return NONE;
            }
            sign[standing] = told;
            left[standing] = x;
            far[standing] = y;
            standing++;
            return standing;
        }

        int hiddenOf(int place) {
            return place >= 0 && place < parts && place < MAX_PARTS ? hidden[place] : 0;
        }

        int paintOf(int place) {
            return place >= 0 && place < parts && place < MAX_PARTS ? paint[place] : 0;
        }

        int signOf(int board) {
            return board >= 0 && board < standing && board < MAX_STANDING ? sign[board] : NONE;
        }

        int leftOf(int board) {
            return board >= 0 && board < standing && board < MAX_STANDING ? left[board] : 0;
        }

        int farOf(int board) {
            return board >= 0 && board < standing && board < MAX_STANDING ? far[board] : 1;
        }
    }

    /** Which signs are confused by some cover, as they are or with cells changed. */
    private static final class Tangle {
        private final Covers covers;
        private final int[] paint = new int[MAX_SIGNS];
        private final int[] mixed = new int[MAX_SIGNS];
        private final int[] mixing = new int[MAX_SIGNS * MAX_SIGNS];
        private int signs;
        private int cells;
        private int slack;
        private int pairs;

        Tangle(Covers covers) {
            this.covers = covers;
        }

        void weave(Alphabet letters, int unlikeAllowed) {
            signs = Math.min(letters.signs, MAX_SIGNS);
            cells = letters.cells();
            slack = unlikeAllowed;
            pairs = 0;
            for (int sign = 0; sign < signs && sign < MAX_SIGNS; sign++) {
                paint[sign] = letters.paintOf(sign);
                mixed[sign] = 0;
            }
            for (int one = 0; one < signs; one++) {
                for (int other = one + 1; other < signs; other++) {
                    settle(one, other);
                }
            }
        }

        void copyFrom(Tangle other) {
            if (other == null) {
                return;
            }
            signs = other.signs;
            cells = other.cells;
            slack = other.slack;
            pairs = other.pairs;
            System.arraycopy(other.paint, 0, paint, 0, MAX_SIGNS);
            System.arraycopy(other.mixed, 0, mixed, 0, MAX_SIGNS);
            System.arraycopy(other.mixing, 0, mixing, 0, MAX_SIGNS * MAX_SIGNS);
        }

        private boolean isSign(int sign) {
            return sign >= 0 && sign < signs && sign < MAX_SIGNS;
        }

        /** Looks anew at two signs, and keeps pairs the count of those that are confused. */
        private void settle(int one, int other) {
            if (!isSign(one) || !isSign(other) || covers == null) {
                return;
            }
            int unlike = paint[one] ^ paint[other];
            boolean before = (mixed[one] >> other & 1) != 0;
            boolean now = covers.firstMixing(unlike, slack) != NONE;
            if (before != now) {
                mixed[one] ^= 1 << other;
                mixed[other] ^= 1 << one;
                pairs += now ? 1 : -1;
            }
            int still = covers.mixingCells(unlike, slack, board());
            mixing[one * MAX_SIGNS + other] = still;
            mixing[other * MAX_SIGNS + one] = still;
        }

        void flip(int sign, int cell) {
            if (!isSign(sign)) {
                return;
            }
            paint[sign] ^= 1 << cell;
            for (int other = 0; other < signs; other++) {
                if (other != sign) {
                    settle(sign, other);
                }
            }
        }

        int board() {
            return (1 << cells) - 1;
        }

        int degree(int sign) {
            return isSign(sign) ? Integer.bitCount(mixed[sign]) : 0;
        }

        /** The cells of a sign by any one of which, changed, nothing is confused any more. */
        int curesOf(int sign) {
            if (!isSign(sign) || pairs != degree(sign)) {
                return 0;
            }
            int still = 0;
            for (int other = 0; other < signs && other < MAX_SIGNS; other++) {
                if (other != sign) {
                    still |= mixing[sign * MAX_SIGNS + other];
                }
            }
            return board() & ~still;
        }

        /** Whether all pairs that are confused have a sign, or one other sign, in common with it. */
        boolean hangsOn(int sign) {
            for (int other = 0; other < signs; other++) {
                int both = isSign(sign) ? mixed[sign] >> other & 1 : 0;
                if (other != sign && pairs == degree(sign) + degree(other) - both) {
                    return true;
                }
            }
            return false;
        }

        /** How many pairs would be confused with one cell of one sign changed. */
        int pairsWith(int sign, int cell) {
            if (!isSign(sign)) {
                return pairs;
            }
            int count = pairs - degree(sign);
            for (int other = 0; other < signs && other < MAX_SIGNS; other++) {
                if (other != sign) {
                    count += mixing[sign * MAX_SIGNS + other] >> cell & 1;
                }
            }
            return count;
        }

        int mostApartPairs() {
            int alone = 0;
            for (int sign = 0; sign < signs; sign++) {
                if (degree(sign) == 0) {
                    alone |= 1 << sign;
                }
            }
            return pairUp(0, alone, 0, 0);
        }

        /** Signs from sign on are paired, those of used are not free: the most pairs, or best if not more. */
        private int pairUp(int sign, int used, int found, int best) {
            if (!isSign(sign)) {
                return Math.max(found, best);
            }
            int free = ((1 << signs) - 1) & ~used & -(1 << sign);
            if (found + Integer.bitCount(free) / 2 <= best) {
                return best;
            }
            int most = best;
            int open = (used >> sign & 1) != 0 ? 0 : mixed[sign] & free;
            for (int other = sign + 1; other < signs; other++) {
                if ((open >> other & 1) != 0) {
                    most = pairUp(sign + 1, used | 1 << sign | 1 << other, found + 1, most);
                }
            }
            return pairUp(sign + 1, used | 1 << sign, found, most);
        }
    }

    /** Cells that are changed, on trial, so that nothing is confused. */
    private static final class Repair {
        private static final int MAX_STEPS = 30;

        private final Tangle trial;
        private int count;
        private int first;
        private int second;

        Repair(Tangle trial) {
            this.trial = trial;
        }

        void find(Tangle now) {
            count = NONE;
            first = NONE;
            second = NONE;
            if (now.pairs == 0) {
                count = 0;
            } else if (!byOne(now)) {
                byTwo(now);
            }
        }

        private boolean byOne(Tangle now) {
            for (int sign = 0; sign < now.signs; sign++) {
                int cures = now.curesOf(sign);
                if (cures != 0) {
                    count = 1;
                    first = 100 * sign + lowestOf(cures);
                    return true;
                }
            }
            return false;
        }

        private void byTwo(Tangle now) {
            if (trial == null) {
                return;
            }
            for (int sign = 0; sign < now.signs; sign++) {
                for (int cell = 0; cell < now.cells && now.hangsOn(sign); cell++) {
                    trial.copyFrom(now);
                    trial.flip(sign, cell);
                    if (endsBehind(sign, cell)) {
                        count = 2;
                        first = 100 * sign + cell;
                        return;
                    }
                }
            }
        }

        private boolean endsBehind(int sign, int cell) {
            for (int other = sign; other < trial.signs; other++) {
                int cures = trial.curesOf(other);
                if (other == sign) {
                    cures &= -(2 << cell);
                }
                if (cures != 0) {
                    second = 100 * other + lowestOf(cures);
                    return true;
                }
            }
            return false;
        }

        /** Changes the best cell again and again: how many. */
        int walk(Tangle now) {
            if (trial == null) {
                return 0;
            }
            trial.copyFrom(now);
            int steps = 0;
            while (steps < MAX_STEPS && trial.pairs > 0 && stepIsDone()) {
                steps++;
            }
            return steps;
        }

        int pairsLeft() {
            return trial == null ? 0 : trial.pairs;
        }

        private boolean stepIsDone() {
            int fewest = trial.pairs;
            int bestSign = NONE;
            int bestCell = NONE;
            for (int sign = 0; sign < trial.signs; sign++) {
                for (int cell = 0; cell < trial.cells; cell++) {
                    int pairs = trial.pairsWith(sign, cell);
                    if (pairs < fewest) {
                        fewest = pairs;
                        bestSign = sign;
                        bestCell = cell;
                    }
                }
            }
            if (bestSign == NONE) {
                return false;
            }
            trial.flip(bestSign, bestCell);
            return true;
        }
    }

    /** The fewest cells that tell a sign from all others. */
    private static final class LeastPart {
        private static final int MAX_PART = 6;

        private final int[] unlike = new int[MAX_SIGNS];
        private int others;
        private int need;
        private int cells;

        /** The cells found are those by which each other sign is unlike in as many as are needed. */
        boolean find(Alphabet letters, int sign, int needed) {
            others = 0;
            need = needed;
            for (int other = 0; other < letters.signs; other++) {
                if (other != sign && others >= 0 && others < MAX_SIGNS) {
                    unlike[others] = letters.paintOf(sign) ^ letters.paintOf(other);
                    others++;
                }
            }
            for (int size = 0; size <= MAX_PART; size++) {
                if (grows(0, size, letters.cells())) {
                    return true;
                }
            }
            return false;
        }

        /** Adds the highest cell first, the lowest possible, so that what is found first is least. */
        private boolean grows(int chosen, int more, int below) {
            if (more < 0 || more > MAX_PART || isHopeless(chosen, more, below)) {
                return false;
            }
            if (more == 0) {
                cells = chosen;
                return true;
            }
            for (int cell = more - 1; cell < below; cell++) {
                if (grows(chosen | 1 << cell, more - 1, cell)) {
                    return true;
                }
            }
            return false;
        }

        /** Whether some sign, or signs that share no free cell, need more cells than are left. */
        private boolean isHopeless(int chosen, int more, int below) {
            int free = (1 << below) - 1;
            int shared = 0;
            int sum = 0;
            for (int i = 0; i < others && i < MAX_SIGNS; i++) {
                int missing = need - Integer.bitCount(unlike[i] & chosen);
                int useful = unlike[i] & free;
                if (missing > more || missing > Integer.bitCount(useful)) {
                    return true;
                }
                if (missing > 0 && (useful & shared) == 0) {
                    shared |= useful;
                    sum += missing;
                }
            }
            return sum > more;
        }
    }

    /** How many signs, of any paint, a small board can have. */
    private static final class Codes {
        private static final int MOST_CELLS = 6;
        private static final int TAKEN_CELLS = 12;
        private static final int WORDS_OF_BITS = 64;
        private static final int LEVELS = 34;

        private final long[] mixed = new long[WORDS_OF_BITS];
        private final long[] blocked = new long[WORDS_OF_BITS];
        private final long[] apart = new long[WORDS_OF_BITS];
        private final int[] shaded = new int[LEVELS * 64];
        private int best;
        private int limit;

        private static boolean has(long[] bits, int number) {
            int index = number >> 6;
            return bits != null && index >= 0 && index < bits.length && (bits[index] >>> (number & 63) & 1L) != 0;
        }

        private static void put(long[] bits, int number) {
            int index = number >> 6;
            if (bits != null && index >= 0 && index < bits.length) {
                bits[index] |= 1L << (number & 63);
            }
        }

        /** Whether two paints are confused hangs on the cells alone in which they are unlike. */
        private void gather(Covers covers, int cells, int slack) {
            Arrays.fill(mixed, 0L);
            for (int unlike = 1; unlike < 1 << cells; unlike++) {
                if (allBelowAreMixed(unlike, cells) && covers.firstMixing(unlike, slack) != NONE) {
                    put(mixed, unlike);
                }
            }
        }

        /** Fewer unlike cells are confused all the more, so a gap below saves the look. */
        private boolean allBelowAreMixed(int unlike, int cells) {
            for (int cell = 0; cell < cells; cell++) {
                int below = unlike & ~(1 << cell);
                if (below != unlike && below != 0 && !has(mixed, below)) {
                    return false;
                }
            }
            return true;
        }

        int rowByRow(Covers covers, int cells, int dirt) {
            if (cells > TAKEN_CELLS) {
                return NONE;
            }
            gather(covers, cells, 2 * dirt);
            Arrays.fill(blocked, 0L);
            int count = 0;
            for (int paint = 0; paint < 1 << cells; paint++) {
                if (!has(blocked, paint)) {
                    count++;
                    blockFrom(paint);
                }
            }
            return count;
        }

        private void blockFrom(int paint) {
            for (int index = 0; index < WORDS_OF_BITS; index++) {
                for (int bit = 0; bit < 64 && mixed[index] != 0L; bit++) {
                    if ((mixed[index] >>> bit & 1L) != 0L) {
                        put(blocked, paint ^ (64 * index + bit));
                    }
                }
            }
        }

        int largest(Covers covers, int cells, int dirt) {
            if (cells > MOST_CELLS) {
                return NONE;
            }
            gather(covers, cells, 2 * dirt);
            int paints = 1 << cells;
            if (mixed[0] == 0L) {
                return paints;
            }
            for (int paint = 0; paint < paints && paint < 64; paint++) {
                apart[paint] = 0L;
                for (int other = 0; other < paints; other++) {
                    if (other != paint && !has(mixed, paint ^ other)) {
                        apart[paint] |= 1L << other;
                    }
                }
            }
            best = 1;
            limit = paints / ball(covers.largest(), cells, dirt);
            grow(apart[0], 1);
            return best;
        }

        /**
         * How many paints are all confused with each other: what the largest cover hides may be any,
         * and d cells beside it. Boards look alike from any paint, so signs have such a ball each.
         */
        private int ball(int hidden, int cells, int dirt) {
            int free = Math.max(0, cells - hidden);
            int ways = 1;
            int beside = 1;
            for (int unlike = 1; unlike <= dirt && unlike <= free; unlike++) {
                ways = ways * (free - unlike + 1) / unlike;
                beside += ways;
            }
            return Math.max(1, beside << Math.min(hidden, MOST_CELLS));
        }

        /** All boards look alike from any paint, so paint 0 is always one of the signs. */
        private void grow(long candidates, int size) {
            best = Math.max(best, size);
            if (size < 0 || size >= LEVELS) {
                return;
            }
            int count = arrange(candidates, size * 64);
            long left = candidates;
            for (int i = count - 1; i >= 0 && i < 64; i--) {
                int next = shaded[size * 64 + i];
                if (best >= limit || size + (next >> 6) <= best) {
                    return;
                }
                int paint = next & 63;
                grow(left & apart[paint], size + 1);
                left &= ~(1L << paint);
            }
        }

        /** Of paints of one shade at most one can be a sign: the last shade bounds how many can. */
        private int arrange(long candidates, int base) {
            int count = 0;
            long left = candidates;
            for (int colour = 1; colour <= 64 && left != 0L; colour++) {
                long pool = left;
                for (int turn = 0; turn < 64 && pool != 0L; turn++) {
                    int paint = Long.bitCount((pool & -pool) - 1L) & 63;
                    pool &= ~(1L << paint) & ~apart[paint];
                    left &= ~(1L << paint);
                    int slot = base + count;
                    if (slot >= 0 && slot < shaded.length) {
                        shaded[slot] = 64 * colour + paint;
                        count++;
                    }
                }
            }
            return count;
        }
    }

    /** Which columns of standing ones are seen; each board is surveyed no farther than was asked for. */
    private static final class Outlook {
        private final int[] from = new int[MAX_STANDING * SHIPS];
        private final int[] by = new int[MAX_STANDING * SHIPS];
        private final int[] surveyed = new int[MAX_STANDING];

        void spoil() {
            Arrays.fill(surveyed, 0);
        }

        int columns(Scene scene, int width, int board, int s, boolean so) {
            if (board < 0 || board >= MAX_STANDING || s < 0 || s >= SHIPS) {
                return 0;
            }
            int base = board * SHIPS;
            for (int ship = surveyed[board]; ship >= 0 && ship <= s; ship++) {
                from[base + ship] = openColumns(scene, width, board, ship);
                by[base + ship] = from[base + ship] | (ship > 0 ? by[base + ship - 1] : 0);
                surveyed[board] = ship + 1;
            }
            return so ? by[base + s] : from[base + s];
        }

        private int openColumns(Scene scene, int width, int board, int s) {
            int bits = 0;
            for (int column = 0; column < width; column++) {
                if (!isHidden(scene, width, board, column, s)) {
                    bits |= 1 << column;
                }
            }
            return bits;
        }

        /** All lengths are taken 2 Y times, so that the middle and the way past a board are whole numbers. */
        private boolean isHidden(Scene scene, int width, int board, int column, int s) {
            int far = scene.farOf(board);
            int aside = 2 * (scene.leftOf(board) + column - s) + 1;
            for (int other = 0; other < scene.standing; other++) {
                int near = scene.farOf(other);
                int way = 2 * s * far + aside * near;
                int left = 2 * far * scene.leftOf(other);
                if (near < far && left <= way && way <= left + 2 * far * width) {
                    return true;
                }
            }
            return false;
        }
    }
}
