import java.util.ArrayList;
import java.util.Comparator;
import java.util.List;
import java.util.NoSuchElementException;
import java.util.TreeSet;

/** What the document says, done in the plainest and slowest way, to be set beside the class. */
final class Oracle {
    private final List<Integer> tape = new ArrayList<>();
    private int w = 6;
    private int h = 5;
    private List<Integer> paints = new ArrayList<>();
    private List<Integer> families = new ArrayList<>();
    private List<String> words = new ArrayList<>();
    private List<Integer> covers = new ArrayList<>(List.of(0));
    private int faultPlace = -1;
    private State now = new State();
    private final List<State> images = new ArrayList<>();

    private static final class State {
        int d;
        List<int[]> parts = new ArrayList<>();
        List<int[]> standing = new ArrayList<>();

        State copy() {
            State s = new State();
            s.d = d;
            s.parts.addAll(parts);
            s.standing.addAll(standing);
            return s;
        }
    }

    /** A fault: kind and place. */
    private static final class Fault extends Exception {
        final int kind;
        final int place;

        Fault(int kind, int place) {
            this.kind = kind;
            this.place = place;
        }
    }

    /** Tokens: kind 'w' letters, 'n' digits, 'e' end, 'c' any other byte. */
    private record Token(char kind, String text, int place) {
        boolean is(String word) {
            return kind == 'w' && text.equals(word);
        }
    }

    private static List<Token> tokens(String text) {
        List<Token> list = new ArrayList<>();
        int at = 0;
        while (at < text.length()) {
            char c = text.charAt(at);
            int from = at;
            at++;
            if (c == ' ') {
                continue;
            }
            char kind = c >= 'a' && c <= 'z' ? 'w' : c >= '0' && c <= '9' ? 'n' : 'c';
            while (kind == 'w' && at < text.length() && text.charAt(at) >= 'a' && text.charAt(at) <= 'z') {
                at++;
            }
            while (kind == 'n' && at < text.length() && text.charAt(at) >= '0' && text.charAt(at) <= '9') {
                at++;
            }
            list.add(new Token(kind, text.substring(from, at), from));
        }
        list.add(new Token('e', "", text.length()));
        return list;
    }

    private List<Token> line;
    private int head;

    private Token next() {
        Token t = line.get(head);
        if (t.kind != 'e') {
            head++;
        }
        return t;
    }

    private Token peek() {
        return line.get(head);
    }

    private int num(int low, int high) throws Fault {
        Token t = next();
        if (t.kind != 'n') {
            throw new Fault(1, t.place);
        }
        java.math.BigInteger v = new java.math.BigInteger(t.text);
        if (v.bitLength() > 20 || v.intValue() < low || v.intValue() > high) {
            throw new Fault(2, t.place);
        }
        return v.intValue();
    }

    private void mark(String m) throws Fault {
        Token t = next();
        if (t.kind != 'c' || !t.text.equals(m)) {
            throw new Fault(1, t.place);
        }
    }

    int feed(int a, int b, int c, int d, int e) {
        if (tape.size() + 20 > 500) {
            return -1;
        }
        for (int n : new int[] {a, b, c, d, e}) {
            tape.add(n >>> 24);
            tape.add(n >>> 16 & 255);
            tape.add(n >>> 8 & 255);
            tape.add(n & 255);
        }
        return tape.size();
    }

    private String take(int n) {
        if (n < 0 || n > tape.size()) {
            throw new IllegalArgumentException();
        }
        StringBuilder b = new StringBuilder();
        for (int i = 0; i < n; i++) {
            b.append((char) (int) tape.get(i));
        }
        tape.clear();
        return b.toString();
    }

    int alphabet(int n) {
        line = tokens(take(n));
        head = 0;
        int oldW = w;
        int oldH = h;
        List<Integer> oldPaints = paints;
        List<Integer> oldFamilies = families;
        List<String> oldWords = words;
        w = 6;
        h = 5;
        paints = new ArrayList<>();
        families = new ArrayList<>();
        words = new ArrayList<>();
        try {
            for (int clause = 0; peek().kind != 'e'; clause++) {
                clause(clause);
                mark(";");
            }
        } catch (Fault f) {
            w = oldW;
            h = oldH;
            paints = oldPaints;
            families = oldFamilies;
            words = oldWords;
            faultPlace = f.place;
            return f.kind - 10;
        }
        faultPlace = -1;
        covers = new ArrayList<>(List.of(0));
        now = new State();
        images.clear();
        return paints.size();
    }

    private void clause(int before) throws Fault {
        Token t = next();
        if (t.kind != 'w' || !List.of("board", "sign", "across", "down", "clean", "turned", "mirror", "family", "word").contains(t.text)) {
            throw new Fault(1, t.place);
        }
        if (List.of("across", "down", "clean").contains(t.text) && paints.isEmpty()) {
            throw new Fault(1, t.place);
        }
        boolean makes = List.of("sign", "turned", "mirror").contains(t.text);
        if (before == 60 || makes && paints.size() == 12 || t.is("word") && words.size() == 8) {
            throw new Fault(3, t.place);
        }
        if (t.is("board") && before > 0) {
            throw new Fault(4, t.place);
        }
        if (t.is("board")) {
            w = num(2, 6);
            h = num(2, 5);
        } else if (t.is("sign")) {
            make(0);
        } else if (t.is("across") || t.is("down")) {
            int x = num(0, w - 1);
            int y = num(0, h - 1);
            boolean across = t.is("across");
            int n = num(1, across ? w - x : h - y);
            for (int i = 0; i < n; i++) {
                int cell = across ? y * w + x + i : (y + i) * w + x;
                paints.set(paints.size() - 1, paints.get(paints.size() - 1) | 1 << cell);
            }
        } else if (t.is("clean")) {
            int x = num(0, w - 1);
            int y = num(0, h - 1);
            int paint = paints.get(paints.size() - 1);
            if ((paint >> y * w + x & 1) != 0) {
                paints.set(paints.size() - 1, paint - (1 << y * w + x));
            }
        } else if (makes) {
            int k = num(0, paints.size() - 1);
            int paint = 0;
            for (int x = 0; x < w; x++) {
                for (int y = 0; y < h; y++) {
                    int toY = t.is("turned") ? h - 1 - y : y;
                    if ((paints.get(k) >> y * w + x & 1) != 0) {
                        paint |= 1 << toY * w + w - 1 - x;
                    }
                }
            }
            make(paint);
        } else if (t.is("family")) {
            int f = num(0, 3);
            families.set(num(0, paints.size() - 1), f);
        } else {
            Token d = next();
            if (d.kind != 'w') {
                throw new Fault(1, d.place);
            }
            if (d.text.length() > 6 || d.text.chars().anyMatch(c -> c - 'a' >= paints.size())) {
                throw new Fault(2, d.place);
            }
            words.add(d.text);
        }
    }

    private void make(int paint) {
        paints.add(paint);
        families.add(-1);
    }

    private boolean tooMany;

    int rule(int n) {
        String text = take(n);
        line = tokens(text);
        head = 0;
        tooMany = false;
        TreeSet<Integer> set;
        try {
            set = ruleC(0);
            if (peek().kind != 'e') {
                throw new Fault(1, peek().place);
            }
            if (tooMany) {
                throw new Fault(4, text.length());
            }
        } catch (Fault f) {
            faultPlace = f.place;
            return f.kind - 10;
        }
        faultPlace = -1;
        covers = new ArrayList<>(set);
        covers.sort(Comparator.comparingInt((Integer c) -> Integer.bitCount(c)).thenComparingInt(c -> c));
        now.parts.clear();
        return covers.size();
    }

    private TreeSet<Integer> limited(TreeSet<Integer> set) {
        if (set.size() > 500) {
            tooMany = true;
        }
        return tooMany ? new TreeSet<>(List.of(0)) : set;
    }

    private TreeSet<Integer> ruleC(int open) throws Fault {
        TreeSet<Integer> set = ruleD(open);
        while (peek().is("or")) {
            next();
            TreeSet<Integer> sum = new TreeSet<>(set);
            sum.addAll(ruleD(open));
            set = limited(sum);
        }
        return set;
    }

    private TreeSet<Integer> ruleD(int open) throws Fault {
        TreeSet<Integer> set = ruleB(open);
        while (peek().is("and")) {
            next();
            TreeSet<Integer> other = ruleB(open);
            TreeSet<Integer> sum = new TreeSet<>();
            for (int a : set) {
                for (int b : other) {
                    sum.add(a | b);
                }
            }
            set = limited(sum);
        }
        return set;
    }

    private TreeSet<Integer> ruleB(int open) throws Fault {
        Token t = next();
        TreeSet<Integer> set = new TreeSet<>();
        if (t.text.equals("[") || t.is("not")) {
            if (open == 6) {
                throw new Fault(3, t.place);
            }
            if (t.is("not")) {
                for (int c : ruleB(open + 1)) {
                    set.add((1 << w * h) - 1 - c);
                }
            } else {
                set = ruleC(open + 1);
                mark("]");
            }
        } else if (t.is("side")) {
            int s = num(0, 3);
            int n = num(1, s < 2 ? w : h);
            set.add(where((x, y) -> s == 0 ? x < n : s == 1 ? x >= w - n : s == 2 ? y < n : y >= h - n));
        } else if (t.is("corner")) {
            int s = num(0, 3);
            int n = num(1, Math.min(w, h));
            set.add(where((x, y) -> (s == 0 || s == 2 ? x < n : x >= w - n) && (s == 0 || s == 1 ? y < n : y >= h - n)));
        } else if (t.is("any")) {
            int n = num(0, 3);
            if (n == 0) {
                set.add(0);
            }
            for (int a = 0; a < w * h && n > 0; a++) {
                for (int b = 0; b < w * h; b++) {
                    for (int c = 0; c < w * h; c++) {
                        int m = 1 << a | 1 << b | 1 << c;
                        if (Integer.bitCount(m) == n) {
                            set.add(m);
                        }
                    }
                }
            }
        } else if (t.is("front")) {
            int fx = num(0, w - 1);
            int fy = num(0, h - 1);
            int fw = num(1, w - fx);
            int fh = num(1, h - fy);
            set.add(where((x, y) -> x >= fx && x < fx + fw && y >= fy && y < fy + fh));
        } else if (t.is("fog")) {
            int p = num(0, 1);
            set.add(where((x, y) -> (x + y) % 2 == p));
        } else {
            throw new Fault(1, t.place);
        }
        return limited(set);
    }

    private interface At {
        boolean is(int x, int y);
    }

    private int where(At at) {
        int cells = 0;
        for (int i = 0; i < w * h; i++) {
            if (at.is(i % w, i / w)) {
                cells |= 1 << i;
            }
        }
        return cells;
    }

    int fault() {
        return faultPlace;
    }

    int told(int what) {
        if (what < 0 || what > 5) {
            throw new IllegalArgumentException();
        }
        return new int[] {paints.size(), w, h, words.size(), covers.size(), now.d}[what];
    }

    private void signThere(int s) {
        if (s < 0 || s >= paints.size()) {
            throw new NoSuchElementException();
        }
    }

    private void check(boolean good) {
        if (!good) {
            throw new IllegalArgumentException();
        }
    }

    private void there(int i, List<?> list) {
        if (i < 0 || i >= list.size()) {
            throw new IndexOutOfBoundsException();
        }
    }

    int sign(int s) {
        signThere(s);
        return paints.get(s);
    }

    int family(int s) {
        signThere(s);
        return families.get(s);
    }

    int word(int word, int place) {
        there(word, words);
        check(place >= 0 && place <= 5);
        return place < words.get(word).length() ? words.get(word).charAt(place) - 'a' : -1;
    }

    int cover(int c) {
        there(c, covers);
        return covers.get(c);
    }

    int dirt(int d) {
        check(d >= 0 && d <= 3);
        int was = now.d;
        now.d = d;
        return was;
    }

    private int unlike(int a, int b, int cover) {
        int count = 0;
        for (int i = 0; i < w * h; i++) {
            if ((cover >> i & 1) == 0 && (a >> i & 1) != (b >> i & 1)) {
                count++;
            }
        }
        return count;
    }

    private int mixing(int a, int b) {
        for (int c = 0; c < covers.size(); c++) {
            if (unlike(a, b, covers.get(c)) <= 2 * now.d) {
                return c;
            }
        }
        return -1;
    }

    int confused(int a, int b) {
        signThere(a);
        signThere(b);
        check(a != b);
        return mixing(paints.get(a), paints.get(b));
    }

    private int pairs(List<Integer> list) {
        int count = 0;
        for (int a = 0; a < list.size(); a++) {
            for (int b = 0; b < a; b++) {
                count += mixing(list.get(a), list.get(b)) >= 0 ? 1 : 0;
            }
        }
        return count;
    }

    int confusions() {
        return pairs(paints);
    }

    int blind(int what) {
        check(what == 0 || what == 1);
        int best = 0;
        int most = 0;
        for (int c = 0; c < covers.size(); c++) {
            int count = 0;
            for (int a = 0; a < paints.size(); a++) {
                for (int b = 0; b < a; b++) {
                    count += unlike(paints.get(a), paints.get(b), covers.get(c)) <= 2 * now.d ? 1 : 0;
                }
            }
            if (count > most) {
                most = count;
                best = c;
            }
        }
        return what == 0 ? best : most;
    }

    private int mayBits(int cover, int paint) {
        int bits = 0;
        for (int s = 0; s < paints.size(); s++) {
            bits |= unlike(paint, paints.get(s), cover) <= now.d ? 1 << s : 0;
        }
        return bits;
    }

    private void partThere(int cover, int paint) {
        there(cover, covers);
        check(paint >= 0 && paint < 1L << w * h);
    }

    int may(int cover, int paint) {
        partThere(cover, paint);
        return mayBits(covers.get(cover), paint);
    }

    int read(int cover, int paint) {
        int bits = may(cover, paint);
        for (int s = 0; s < 12; s++) {
            if (bits == 1 << s) {
                return s;
            }
        }
        return -1;
    }

    int nearest(int cover, int paint) {
        partThere(cover, paint);
        int best = -1;
        for (int s = paints.size() - 1; s >= 0; s--) {
            if (best < 0 || unlike(paint, paints.get(s), covers.get(cover)) <= unlike(paint, paints.get(best), covers.get(cover))) {
                best = s;
            }
        }
        return best;
    }

    int part(int cover, int paint) {
        partThere(cover, paint);
        if (now.parts.size() == 6) {
            return -1;
        }
        now.parts.add(new int[] {covers.get(cover), paint});
        return now.parts.size();
    }

    int forget() {
        int n = now.parts.size();
        now.parts.clear();
        return n;
    }

    private List<String> rowWords() {
        List<String> may = new ArrayList<>();
        for (String word : words) {
            boolean good = word.length() == now.parts.size();
            for (int i = 0; good && i < word.length(); i++) {
                int[] part = now.parts.get(i);
                good = unlike(part[1], paints.get(word.charAt(i) - 'a'), part[0]) <= now.d;
            }
            may.add(good ? word : null);
        }
        return may;
    }

    int words() {
        int bits = 0;
        List<String> may = rowWords();
        for (int i = 0; i < may.size(); i++) {
            bits |= may.get(i) != null ? 1 << i : 0;
        }
        return bits;
    }

    int sure(int place) {
        TreeSet<Integer> found = new TreeSet<>();
        for (String word : rowWords()) {
            if (word != null && place >= 0 && place < word.length()) {
                found.add(word.charAt(place) - 'a');
            }
        }
        return found.size() == 1 ? found.first() : -1;
    }

    int least(int s, int what) {
        signThere(s);
        check(what == 0 || what == 1);
        for (int size = 0; size <= Math.min(6, w * h); size++) {
            long set = (1L << size) - 1;
            while (set < 1L << w * h) {
                if (tells(s, (int) set)) {
                    return what == 0 ? size : (int) set;
                }
                if (set == 0) {
                    break;
                }
                long low = set & -set;
                long ripple = set + low;
                set = ((set ^ ripple) >>> 2) / low | ripple;
            }
        }
        return -1;
    }

    private boolean tells(int s, int set) {
        for (int o = 0; o < paints.size(); o++) {
            if (o != s && Integer.bitCount((paints.get(o) ^ paints.get(s)) & set) <= 2 * now.d) {
                return false;
            }
        }
        return true;
    }

    int strokes(int s) {
        signThere(s);
        return lines(paints.get(s), paints.get(s), 0, 31);
    }

    private int lines(int paint, int left, int used, int best) {
        if (left == 0 || used >= best) {
            return Math.min(used, best);
        }
        int cell = Integer.numberOfTrailingZeros(left);
        int row = run(paint, cell, 1, 0);
        int column = run(paint, cell, 0, 1);
        best = lines(paint, left & ~row, used + 1, best);
        return lines(paint, left & ~column, used + 1, best);
    }

    private int run(int paint, int cell, int dx, int dy) {
        int cells = 0;
        for (int way = -1; way <= 1; way += 2) {
            int x = cell % w;
            int y = cell / w;
            while (x >= 0 && x < w && y >= 0 && y < h && (paint >> y * w + x & 1) != 0) {
                cells |= 1 << y * w + x;
                x += dx * way;
                y += dy * way;
            }
        }
        return cells;
    }

    int akin(int f, int what) {
        check(f >= 0 && f <= 3);
        check(what == 0 || what == 1);
        int pair = -1;
        int most = -1;
        for (int a = 0; a < paints.size(); a++) {
            for (int b = a + 1; b < paints.size(); b++) {
                int n = unlike(paints.get(a), paints.get(b), 0);
                if (families.get(a) == f && families.get(b) == f && n > most) {
                    most = n;
                    pair = a * 100 + b;
                }
            }
        }
        return what == 0 ? pair : most;
    }

    int strangers() {
        int bits = 0;
        for (int s = 0; s < paints.size(); s++) {
            boolean others = false;
            boolean strange = false;
            for (int o = 0; o < paints.size(); o++) {
                boolean own = families.get(o).equals(families.get(s));
                others |= own && o != s;
                if (!own) {
                    boolean nearerThanAll = true;
                    for (int p = 0; p < paints.size(); p++) {
                        if (p != s && families.get(p).equals(families.get(s))) {
                            nearerThanAll &= unlike(paints.get(s), paints.get(o), 0) < unlike(paints.get(s), paints.get(p), 0);
                        }
                    }
                    strange |= nearerThanAll;
                }
            }
            if (families.get(s) >= 0 && others && strange) {
                bits |= 1 << s;
            }
        }
        return bits;
    }

    private List<Integer> toggled(List<Integer> list, int place) {
        List<Integer> out = new ArrayList<>(list);
        out.set(place / 100, out.get(place / 100) ^ 1 << place % 100);
        return out;
    }

    private List<Integer> places() {
        List<Integer> all = new ArrayList<>();
        for (int s = 0; s < paints.size(); s++) {
            for (int c = 0; c < w * h; c++) {
                all.add(100 * s + c);
            }
        }
        return all;
    }

    int changed(int what) {
        check(what >= 0 && what <= 2);
        if (pairs(paints) == 0) {
            return what == 0 ? 0 : -1;
        }
        for (int p : places()) {
            if (pairs(toggled(paints, p)) == 0) {
                return new int[] {1, p, -1}[what];
            }
        }
        for (int p : places()) {
            List<Integer> one = toggled(paints, p);
            for (int q : places()) {
                if (q > p && pairs(toggled(one, q)) == 0) {
                    return new int[] {2, p, q}[what];
                }
            }
        }
        return -1;
    }

    int bound() {
        int n = paints.size();
        int[] best = new int[1 << n];
        for (int set = 1; set < 1 << n; set++) {
            for (int a = 0; a < n; a++) {
                for (int b = 0; b < a; b++) {
                    int both = 1 << a | 1 << b;
                    if ((set & both) == both && mixing(paints.get(a), paints.get(b)) >= 0) {
                        best[set] = Math.max(best[set], best[set ^ both] + 1);
                    }
                }
            }
            for (int a = 0; a < n; a++) {
                best[set] = Math.max(best[set], best[set & ~(1 << a)]);
            }
        }
        return best[(1 << n) - 1];
    }

    int steps(int what) {
        check(what == 0 || what == 1);
        List<Integer> list = paints;
        int steps = 0;
        while (steps < 30 && pairs(list) > 0) {
            List<Integer> best = list;
            for (int p : places()) {
                if (pairs(toggled(list, p)) < pairs(best)) {
                    best = toggled(list, p);
                }
            }
            if (best == list) {
                break;
            }
            list = best;
            steps++;
        }
        return what == 0 ? steps : pairs(list);
    }

    int most() {
        if (w * h > 6) {
            return -1;
        }
        int n = 1 << w * h;
        long[] near = new long[n];
        for (int a = 0; a < n; a++) {
            for (int b = 0; b < n; b++) {
                if (a != b && mixing(a, b) >= 0) {
                    near[a] |= 1L << b;
                }
            }
        }
        return independent(near, n == 64 ? -1L : (1L << n) - 1);
    }

    /** The largest set without neighbours: components apart, else the vertex with the most neighbours in or out. */
    private int independent(long[] near, long left) {
        if (left == 0) {
            return 0;
        }
        long part = left & -left;
        for (long old = 0; old != part;) {
            old = part;
            for (int v = 0; v < near.length; v++) {
                part |= (part >>> v & 1) != 0 ? near[v] & left : 0;
            }
        }
        if (part != left) {
            return independent(near, part) + independent(near, left & ~part);
        }
        int widest = -1;
        int most = -1;
        for (int v = 0; v < near.length; v++) {
            int degree = Long.bitCount(near[v] & left);
            if ((left >>> v & 1) != 0 && degree <= 1) {
                return 1 + independent(near, left & ~near[v] & ~(1L << v));
            }
            if ((left >>> v & 1) != 0 && degree > most) {
                most = degree;
                widest = v;
            }
        }
        long out = left & ~(1L << widest);
        return Math.max(1 + independent(near, out & ~near[widest]), independent(near, out));
    }

    int taken() {
        if (w * h > 12) {
            return -1;
        }
        List<Integer> list = new ArrayList<>();
        for (int p = 0; p < 1 << w * h; p++) {
            boolean good = true;
            for (int i = 0; good && i < list.size(); i++) {
                good = mixing(p, list.get(i)) < 0;
            }
            if (good) {
                list.add(p);
            }
        }
        return list.size();
    }

    int stand(int s, int x, int y) {
        signThere(s);
        check(x >= 0 && x <= 99 && y >= 1 && y <= 99);
        if (now.standing.size() == 8) {
            return -1;
        }
        now.standing.add(new int[] {s, x, y});
        return now.standing.size();
    }

    int leave() {
        int n = now.standing.size();
        now.standing.clear();
        return n;
    }

    private int columns(int board, int s, boolean so) {
        int bits = 0;
        for (int from = so ? 0 : s; from <= s; from++) {
            for (int c = 0; c < w; c++) {
                int[] b = now.standing.get(board);
                boolean hidden = false;
                for (int[] o : now.standing) {
                    if (o[2] < b[2]) {
                        long x = 2L * from * (b[2] - o[2]) + (2L * (b[1] + c) + 1) * o[2];
                        hidden |= x >= 2L * b[2] * o[1] && x <= 2L * b[2] * (o[1] + w);
                    }
                }
                bits |= hidden ? 0 : 1 << c;
            }
        }
        return bits;
    }

    int seen(int board, int s, boolean so) {
        there(board, now.standing);
        check(s >= 0 && s <= 99);
        return columns(board, s, so);
    }

    int guess(int board, int s, boolean so) {
        int columns = seen(board, s, so);
        return mayBits(where((x, y) -> (columns >> x & 1) == 0), paints.get(now.standing.get(board)[0]));
    }

    int known(int board, boolean so) {
        there(board, now.standing);
        for (int s = 0; s < 100; s++) {
            if (guess(board, s, so) == 1 << now.standing.get(board)[0]) {
                return s;
            }
        }
        return -1;
    }

    int all(boolean so) {
        for (int s = 0; s < 100; s++) {
            boolean good = true;
            for (int b = 0; b < now.standing.size(); b++) {
                good &= guess(b, s, so) == 1 << now.standing.get(b)[0];
            }
            if (good) {
                return s;
            }
        }
        return -1;
    }

    int voyage(boolean so) {
        StringBuilder own = new StringBuilder();
        for (int[] b : now.standing) {
            own.append((char) ('a' + b[0]));
        }
        if (!words.contains(own.toString())) {
            return -1;
        }
        for (int s = 0; s < 100; s++) {
            TreeSet<String> may = new TreeSet<>();
            for (String word : words) {
                boolean good = word.length() == own.length();
                for (int i = 0; good && i < word.length(); i++) {
                    good = (guess(i, s, so) >> word.charAt(i) - 'a' & 1) != 0;
                }
                if (good) {
                    may.add(word);
                }
            }
            if (may.size() == 1) {
                return s;
            }
        }
        return -1;
    }

    int image() {
        if (images.size() == 3) {
            return -1;
        }
        images.add(now.copy());
        return images.size();
    }

    int restore() {
        if (images.isEmpty()) {
            return -1;
        }
        now = images.remove(images.size() - 1);
        return images.size();
    }

    int count(int what) {
        if (what < 0 || what > 3) {
            return -1;
        }
        return new int[] {now.parts.size(), now.standing.size(), images.size(), tape.size()}[what];
    }
}
