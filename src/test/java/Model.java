import java.math.BigInteger;
import java.util.ArrayDeque;
import java.util.ArrayList;
import java.util.Arrays;
import java.util.Deque;
import java.util.HashSet;
import java.util.List;
import java.util.NoSuchElementException;
import java.util.Set;
import java.util.TreeMap;

/**
 * The document once more, written as differently from the class as could be (texts walked as trees, lists,
 * every order and every set tried out), so that ModelTest can hold the two against each other.
 */
final class Model {
    static final class Fault extends RuntimeException {
        final int kind;
        final int place;

        Fault(int kind, int place) {
            super(null, null, false, false);
            this.kind = kind;
            this.place = place;
        }
    }

    record Token(String text, int place) {
        boolean isNumber() {
            return !text.isEmpty() && Character.isDigit(text.charAt(0));
        }
    }

    /** All tokens of a text; the last one is empty, and stands at the length. */
    static List<Token> tokens(String text) {
        List<Token> list = new ArrayList<>();
        java.util.regex.Matcher m = java.util.regex.Pattern.compile("[0-9]+|[a-z]+|[^ ]", java.util.regex.Pattern.DOTALL).matcher(text);
        while (m.find()) {
            list.add(new Token(m.group(), m.start()));
        }
        list.add(new Token("", text.length()));
        return list;
    }

    static final class Source {
        final List<Token> list;
        int at = 0;
        int open = 0;

        Source(String text) {
            list = tokens(text);
        }

        Token peek() {
            return list.get(at);
        }

        boolean is(String text) {
            return peek().text.equals(text);
        }

        Token next() {
            Token token = peek();
            if (token.text.isEmpty()) {
                throw new Fault(1, token.place);
            }
            at++;
            return token;
        }

        void need(String text) {
            if (!is(text)) {
                throw new Fault(1, peek().place);
            }
            at++;
        }

        int number(int least, int most) {
            Token token = peek();
            if (!token.isNumber()) {
                throw new Fault(1, token.place);
            }
            at++;
            BigInteger value = new BigInteger(token.text);
            if (value.compareTo(BigInteger.valueOf(least)) < 0 || value.compareTo(BigInteger.valueOf(most)) > 0) {
                throw new Fault(2, token.place);
            }
            return value.intValue();
        }

        void opens(Token token) {
            if (++open > 6) {
                throw new Fault(3, token.place);
            }
        }
    }

    record Letter(int bed, List<Integer> words) {
    }

    static final class Ground {
        final List<Integer> far = new ArrayList<>();
        final List<Letter> letters = new ArrayList<>();
        final List<Integer> homes = new ArrayList<>();
    }

    static Ground readGround(String text) {
        Ground g = new Ground();
        Source s = new Source(text);
        while (!s.is("")) {
            Token head = s.next();
            switch (head.text) {
                case "bed" -> {
                    if (g.far.size() == 6) {
                        throw new Fault(3, head.place);
                    }
                    g.far.add(s.number(0, 30));
                }
                case "letter" -> {
                    if (g.letters.size() == 6) {
                        throw new Fault(3, head.place);
                    }
                    int bed = s.number(0, g.far.size() - 1);
                    List<Integer> words = new ArrayList<>(List.of(s.number(0, 15)));
                    while (s.peek().isNumber()) {
                        int place = s.peek().place;
                        words.add(s.number(0, 15));
                        if (words.size() == 9) {
                            throw new Fault(3, place);
                        }
                    }
                    g.letters.add(new Letter(bed, words));
                }
                case "reader" -> {
                    if (g.homes.size() == 5) {
                        throw new Fault(3, head.place);
                    }
                    g.homes.add(s.number(0, g.far.size() - 1));
                }
                default -> throw new Fault(1, head.place);
            }
            s.need(";");
        }
        return g;
    }

    /** A LAW as a tree. */
    interface Tree {
        int value(int[] given);
    }

    static final List<String> VALUES = List.of("rain", "wet", "left", "far", "lies", "year", "letter");

    static Tree readLaw(String text) {
        Source s = new Source(text);
        Tree tree = sum(s);
        if (!s.is("")) {
            throw new Fault(1, s.peek().place);
        }
        return tree;
    }

    private static Tree sum(Source s) {
        Tree left = product(s);
        while (s.is("+") || s.is("-")) {
            boolean plus = s.next().text.equals("+");
            Tree a = left;
            Tree b = product(s);
            left = g -> plus ? a.value(g) + b.value(g) : a.value(g) - b.value(g);
        }
        return left;
    }

    private static Tree product(Source s) {
        Tree left = unit(s);
        while (s.is("*") || s.is("/") || s.is("%")) {
            String sign = s.next().text;
            Tree a = left;
            Tree b = unit(s);
            left = g -> {
                long x = a.value(g);
                long y = b.value(g);
                if (sign.equals("*")) {
                    return (int) (x * y);
                }
                return y == 0 ? 0 : (int) (sign.equals("/") ? x / y : x % y);
            };
        }
        return left;
    }

    private static Tree unit(Source s) {
        if (s.peek().isNumber()) {
            int n = s.number(0, 999);
            return g -> n;
        }
        Token token = s.next();
        if (VALUES.contains(token.text)) {
            int index = VALUES.indexOf(token.text);
            return g -> g[index];
        }
        if (token.text.equals("(")) {
            s.opens(token);
            Tree inner = sum(s);
            s.need(")");
            s.open--;
            return inner;
        }
        if (token.text.equals("least") || token.text.equals("most")) {
            s.opens(token);
            s.need("[");
            Tree a = sum(s);
            s.need(",");
            Tree b = sum(s);
            s.need("]");
            s.open--;
            boolean least = token.text.equals("least");
            return g -> least ? Math.min(a.value(g), b.value(g)) : Math.max(a.value(g), b.value(g));
        }
        throw new Fault(1, token.place);
    }

    record Step(String name, int a, int b, List<Step> inner) {
    }

    List<Step> readWork(String text) {
        Source s = new Source(text);
        List<Step> steps = steps(s);
        if (!s.is("")) {
            throw new Fault(1, s.peek().place);
        }
        return steps;
    }

    private List<Step> steps(Source s) {
        List<Step> list = new ArrayList<>();
        while (!s.is("") && !s.is("]")) {
            Token head = s.next();
            switch (head.text) {
                case "wind" -> list.add(new Step("wind", s.number(1, 30), 0, null));
                case "rain" -> list.add(new Step("rain", s.number(1, 20), 0, null));
                case "tie" -> list.add(new Step("tie", s.number(0, ground.letters.size() - 1), 0, null));
                case "walk" -> list.add(new Step("walk", s.number(0, ground.homes.size() - 1), s.number(0, ground.far.size() - 1), null));
                case "eat" -> list.add(new Step("eat", s.number(0, ground.far.size() - 1), 0, null));
                case "year" -> list.add(new Step("year", 0, 0, null));
                case "again" -> {
                    s.opens(head);
                    int n = s.number(0, 30);
                    s.need("[");
                    List<Step> inner = steps(s);
                    s.need("]");
                    s.open--;
                    list.add(new Step("again", n, 0, inner));
                }
                default -> throw new Fault(1, head.place);
            }
            s.need(";");
        }
        return list;
    }

    TreeMap<Integer, Integer> readBook(String text) {
        TreeMap<Integer, Integer> lines = new TreeMap<>();
        Source s = new Source(text);
        while (!s.is("")) {
            int place = s.peek().place;
            int bed = s.number(0, ground.far.size() - 1);
            if (lines.containsKey(bed)) {
                throw new Fault(2, place);
            }
            lines.put(bed, s.number(0, 16));
            s.need(";");
        }
        return lines;
    }

    /** All that WORK changes. */
    final class Time {
        int year;
        int wet;
        int lost;
        int eaten;
        final List<List<Integer>> letters = new ArrayList<>();
        final List<List<Integer>> beds = new ArrayList<>();
        final List<Integer> places = new ArrayList<>();
        final List<Set<Integer>> heard = new ArrayList<>();
        final Set<Integer> tied = new HashSet<>();
        final List<Integer> grown = new ArrayList<>();

        Time() {
            for (Letter letter : ground.letters) {
                letters.add(new ArrayList<>(letter.words));
            }
            for (int i = 0; i < ground.far.size(); i++) {
                beds.add(new ArrayList<>());
            }
            for (int home : ground.homes) {
                places.add(home);
                heard.add(new HashSet<>());
            }
        }

        Time(Time o) {
            year = o.year;
            wet = o.wet;
            lost = o.lost;
            eaten = o.eaten;
            o.letters.forEach(x -> letters.add(new ArrayList<>(x)));
            o.beds.forEach(x -> beds.add(new ArrayList<>(x)));
            places.addAll(o.places);
            o.heard.forEach(x -> heard.add(new HashSet<>(x)));
            tied.addAll(o.tied);
            grown.addAll(o.grown);
        }

        Set<Integer> nexts() {
            Set<Integer> words = new HashSet<>();
            for (List<Integer> letter : letters) {
                if (!letter.isEmpty()) {
                    words.add(letter.get(0));
                }
            }
            return words;
        }

        boolean wind(int n) {
            boolean any = false;
            for (int r = 0; r < places.size(); r++) {
                if (ground.far.get(places.get(r)) <= n) {
                    any |= heard.get(r).addAll(nexts());
                }
            }
            return any;
        }

        int run(int letter, int rain) {
            int bed = ground.letters.get(letter).bed;
            int[] given = {rain, wet, letters.get(letter).size(), ground.far.get(bed), beds.get(bed).size(), year, letter};
            return Math.min(letters.get(letter).size(), told(given));
        }

        void runOut(int letter, int n) {
            for (int i = 0; i < n && !letters.get(letter).isEmpty(); i++) {
                int word = letters.get(letter).remove(0);
                List<Integer> bed = beds.get(ground.letters.get(letter).bed);
                if (bed.size() == 12) {
                    lost++;
                } else {
                    bed.add(word);
                }
            }
        }

        void rain(int n) {
            wet = Math.min(99, wet + n);
            for (int l = 0; l < letters.size(); l++) {
                if (!tied.contains(l)) {
                    runOut(l, run(l, n));
                }
            }
        }

        boolean walk(int r, int b) {
            if (places.get(r) == b) {
                return false;
            }
            places.set(r, b);
            heard.get(r).addAll(beds.get(b));
            return true;
        }

        void year() {
            for (List<Integer> bed : beds) {
                if (!bed.isEmpty()) {
                    grown.add(bed.remove(0));
                    if (grown.size() > 60) {
                        grown.remove(0);
                    }
                }
            }
            wet = wet / 2;
            year++;
        }

        boolean step(Step s) {
            switch (s.name) {
                case "wind":
                    return wind(s.a);
                case "rain":
                    rain(s.a);
                    return true;
                case "tie":
                    if (!tied.remove(s.a)) {
                        tied.add(s.a);
                    }
                    return true;
                case "walk":
                    return walk(s.a, s.b);
                case "eat":
                    eaten += beds.get(s.a).size();
                    boolean any = !beds.get(s.a).isEmpty();
                    beds.get(s.a).clear();
                    return any;
                default:
                    if (year >= 400) {
                        return false;
                    }
                    year();
                    return true;
            }
        }

        int left() {
            return letters.stream().mapToInt(List::size).sum();
        }

        int lying() {
            return beds.stream().mapToInt(List::size).sum();
        }

        int last(int bed) {
            List<Integer> words = beds.get(bed);
            return words.isEmpty() ? 16 : words.get(words.size() - 1);
        }
    }

    record Past(Time time, List<Time> works) {
    }

    StringBuilder tape = new StringBuilder();
    Ground ground = new Ground();
    Tree law = null;
    TreeMap<Integer, Integer> book = new TreeMap<>();
    Time now = new Time();
    List<Time> works = new ArrayList<>();
    Deque<Past> images = new ArrayDeque<>();
    int fault = -1;
    int refused = 0;
    int done = 0;
    int begun = 0;
    final int[] thrown = new int[2];

    int told(int[] given) {
        int value = law == null ? given[0] / 4 + 1 : law.value(given);
        return Math.max(0, Math.min(8, value));
    }

    static int bits(Iterable<Integer> places) {
        int bits = 0;
        for (int place : places) {
            bits |= 1 << place;
        }
        return bits;
    }

    private void bad(boolean right) {
        if (!right) {
            thrown[1]++;
            throw new IllegalArgumentException();
        }
    }

    private static boolean in(int value, int least, int most) {
        return value >= least && value <= most;
    }

    private void exists(int number, int many) {
        if (!in(number, 0, many - 1)) {
            thrown[0]++;
            throw new NoSuchElementException();
        }
    }

    private void letterExists(int l) {
        exists(l, ground.letters.size());
    }

    private void bedExists(int b) {
        exists(b, ground.far.size());
    }

    private void readerExists(int r) {
        exists(r, ground.homes.size());
    }

    long feed(int[] x) {
        if (tape.length() + 20 > 600) {
            return -1;
        }
        for (int i = 0; i < 5; i++) {
            for (int j = 3; j >= 0; j--) {
                tape.append((char) (x[i] >>> 8 * j & 255));
            }
        }
        return tape.length();
    }

    private String cut(int n, int most) {
        bad(in(n, 0, Math.min(most, tape.length())));
        fault = -1;
        String text = tape.substring(0, n);
        tape.setLength(0);
        return text;
    }

    long garden(int n) {
        try {
            ground = readGround(cut(n, 600));
        } catch (Fault f) {
            fault = f.place;
            return f.kind - 10;
        }
        law = null;
        book.clear();
        images.clear();
        works = new ArrayList<>();
        now = new Time();
        refused = 0;
        return ground.letters.size();
    }

    long law(int n) {
        try {
            law = readLaw(cut(n, 150));
            return 1;
        } catch (Fault f) {
            fault = f.place;
            return f.kind - 10;
        }
    }

    long work(int n) {
        List<Step> steps;
        try {
            String text = cut(n, 150);
            if (works.size() == 16) {
                return -20;
            }
            steps = readWork(text);
        } catch (Fault f) {
            fault = f.place;
            return f.kind - 10;
        }
        works.add(new Time(now));
        refused = 0;
        done = 0;
        begun = 0;
        perform(steps);
        return done;
    }

    /** Whether STEPS can still be begun. */
    private boolean perform(List<Step> steps) {
        for (Step s : steps) {
            if (begun == 200) {
                return false;
            }
            begun++;
            if (s.name.equals("again")) {
                for (int i = 0; i < s.a; i++) {
                    if (!perform(s.inner)) {
                        return false;
                    }
                }
            } else if (now.step(s)) {
                done++;
            } else {
                refused++;
            }
        }
        return true;
    }

    long book(int n) {
        try {
            book = readBook(cut(n, 60));
            return book.size();
        } catch (Fault f) {
            fault = f.place;
            return f.kind - 10;
        }
    }

    long undo() {
        if (works.isEmpty()) {
            return -1;
        }
        now = works.remove(works.size() - 1);
        refused = 0;
        return works.size();
    }

    long told(int what) {
        bad(in(what, 0, 11));
        int[] answers = {ground.far.size(), ground.letters.size(), ground.homes.size(), now.year, now.wet, now.left(),
            now.lying(), now.lost, now.eaten, book.size(), refused, now.grown.size()};
        return answers[what];
    }

    long letter(int l, int what) {
        letterExists(l);
        bad(in(what, 0, 4));
        List<Integer> left = now.letters.get(l);
        int[] answers = {ground.letters.get(l).bed, ground.letters.get(l).words.size(), left.size(),
            left.isEmpty() ? -1 : left.get(0), now.tied.contains(l) ? 1 : 0};
        return answers[what];
    }

    long word(int l, int k) {
        letterExists(l);
        bad(in(k, 0, ground.letters.get(l).words.size() - 1));
        return ground.letters.get(l).words.get(k);
    }

    long bed(int b, int what) {
        bedExists(b);
        bad(in(what, 0, 4));
        List<Integer> words = now.beds.get(b);
        int there = 0;
        for (int r = 0; r < now.places.size(); r++) {
            there |= now.places.get(r) == b ? 1 << r : 0;
        }
        int[] answers = {ground.far.get(b), words.size(), bits(words), words.isEmpty() ? -1 : words.get(0), there};
        return answers[what];
    }

    long lies(int b, int k) {
        bedExists(b);
        bad(k >= 0);
        return k < now.beds.get(b).size() ? now.beds.get(b).get(k) : -1;
    }

    long reader(int r, int what) {
        readerExists(r);
        bad(in(what, 0, 1));
        return what == 0 ? now.places.get(r) : bits(now.heard.get(r));
    }

    long grown(int k) {
        bad(k >= 0);
        return k < now.grown.size() ? now.grown.get(k) : -1;
    }

    long runs(int l, int n) {
        letterExists(l);
        bad(in(n, 1, 20));
        Time then = new Time(now);
        then.wet = Math.min(99, then.wet + n);
        return then.run(l, n);
    }

    long would(int[] given) {
        int[] most = {20, 99, 8, 30, 12, 400, 5};
        for (int i = 0; i < 7; i++) {
            bad(in(given[i], 0, most[i]));
        }
        return told(given);
    }

    long ahead(int n, int what) {
        bad(in(n, 0, 99) && in(what, 0, 2));
        Time then = new Time(now);
        for (int i = 0; i < n; i++) {
            then.year();
        }
        int[] answers = {then.lying(), then.grown.size(), then.wet};
        return answers[what];
    }

    long rains(int b, int word, int n) {
        bedExists(b);
        bad(in(word, 0, 15) && in(n, 1, 20));
        Time then = new Time(now);
        for (int i = 0; i <= 40; i++) {
            if (then.beds.get(b).contains(word)) {
                return i;
            }
            then.rain(n);
        }
        return -1;
    }

    private int bestSeams;
    private List<Integer> bestOrder;

    private void order(List<Integer> placed, List<Integer> rest, int seams) {
        if (rest.isEmpty() && seams > bestSeams) {
            bestSeams = seams;
            bestOrder = new ArrayList<>(placed);
        }
        for (int l : rest) {
            int more = 0;
            if (!placed.isEmpty()) {
                List<Integer> before = now.letters.get(placed.get(placed.size() - 1));
                more = before.get(before.size() - 1).equals(now.letters.get(l).get(0)) ? 1 : 0;
            }
            List<Integer> others = new ArrayList<>(rest);
            others.remove((Integer) l);
            placed.add(l);
            order(placed, others, seams + more);
            placed.remove(placed.size() - 1);
        }
    }

    private void allOrders() {
        bestSeams = -1;
        List<Integer> rest = new ArrayList<>();
        for (int l = 0; l < now.letters.size(); l++) {
            if (!now.letters.get(l).isEmpty()) {
                rest.add(l);
            }
        }
        order(new ArrayList<>(), rest, 0);
    }

    long stuff() {
        allOrders();
        return bestSeams;
    }

    long stuffed(int k) {
        bad(k >= 0);
        allOrders();
        return k < bestOrder.size() ? bestOrder.get(k) : -1;
    }

    private int cover(int wanted) {
        int best = -1;
        for (int set = (1 << ground.far.size()) - 1; set >= 0; set--) {
            Set<Integer> words = new HashSet<>();
            for (int b = 0; b < ground.far.size(); b++) {
                if ((set & 1 << b) != 0) {
                    words.addAll(now.beds.get(b));
                }
            }
            if ((bits(words) & wanted) == wanted && (best < 0 || Integer.bitCount(set) <= Integer.bitCount(best))) {
                best = set;
            }
        }
        return best;
    }

    long all(int words) {
        bad(in(words, 0, 65535));
        return cover(words);
    }

    long tour(int r) {
        readerExists(r);
        Set<Integer> words = new HashSet<>();
        now.beds.forEach(words::addAll);
        words.removeAll(now.heard.get(r));
        return cover(bits(words));
    }

    private List<int[]> pairs() {
        List<int[]> pairs = new ArrayList<>();
        for (int l = 0; l < ground.letters.size(); l++) {
            for (int n = 1; n <= 9; n++) {
                Time then = new Time(now);
                then.runOut(l, n);
                if (book.entrySet().stream().allMatch(line -> then.last(line.getKey()) == line.getValue())) {
                    pairs.add(new int[] {l, n});
                }
            }
        }
        return pairs;
    }

    long fits(int what) {
        bad(in(what, 0, 1));
        List<int[]> pairs = pairs();
        return what == 0 ? pairs.size() : pairs.isEmpty() ? -1 : 10 * pairs.get(0)[0] + pairs.get(0)[1];
    }

    long look(int what) {
        bad(in(what, 0, 1));
        int best = -1;
        long fewest = -1;
        for (int b = 0; b < ground.far.size(); b++) {
            if (book.containsKey(b)) {
                continue;
            }
            long[] times = new long[17];
            for (int[] pair : pairs()) {
                Time then = new Time(now);
                then.runOut(pair[0], pair[1]);
                times[then.last(b)]++;
            }
            long worst = Arrays.stream(times).max().getAsLong();
            if (best < 0 || worst < fewest) {
                best = b;
                fewest = worst;
            }
        }
        return what == 0 ? best : fewest;
    }

    /** Pod by pod: how likely k or more of n have a word, in parts of 16 to the n. */
    private static BigInteger likely(int n, int k, int q) {
        if (n == 0) {
            return k <= 0 ? BigInteger.ONE : BigInteger.ZERO;
        }
        return likely(n - 1, k - 1, q).multiply(BigInteger.valueOf(q))
            .add(likely(n - 1, k, q).multiply(BigInteger.valueOf(16 - q)));
    }

    long pods(int n, int k, int q, int half) {
        bad(in(n, 0, 12) && in(k, 0, 13) && in(q, 0, 16) && in(half, 0, 1));
        BigInteger above = likely(n, k, q);
        BigInteger below = BigInteger.valueOf(16).pow(n);
        BigInteger common = above.gcd(below);
        return (half == 0 ? above : below).divide(common).longValueExact();
    }

    long she(int v, int w, int what) {
        bad(in(v, 0, 99) && in(w, 0, 99) && in(what, 0, 2));
        int[][] ones = {{-w, 0}, {v, v - w}};
        List<Integer> rests = new ArrayList<>();
        List<Integer> sums = new ArrayList<>();
        for (int a = 0; a < 2; a++) {
            for (int b = 0; b < 2; b++) {
                if (ones[1 - a][b] <= ones[a][b] && ones[1 - b][a] <= ones[b][a]) {
                    rests.add(10 * a + b);
                    sums.add(ones[a][b] + ones[b][a]);
                }
            }
        }
        int[] answers = {rests.size(), rests.isEmpty() ? -1 : rests.get(0), sums.isEmpty() ? 0 : sums.get(0)};
        return answers[what];
    }

    long seed(int b, int beds, int n) {
        bedExists(b);
        bad(in(n, 0, 99) && beds >= 0 && beds >>> ground.far.size() == 0);
        if ((beds & 1 << b) == 0) {
            return 0;
        }
        int answer = 0;
        for (int bound = 0; bound <= 12; bound++) {
            int given = 0;
            for (int i = 0; i < ground.far.size(); i++) {
                given += (beds & 1 << i) != 0 ? Math.min(bound, now.beds.get(i).size()) : 0;
            }
            if (given <= n) {
                answer = Math.min(bound, now.beds.get(b).size());
            }
        }
        return answer;
    }

    long often(int what) {
        bad(in(what, 0, 1));
        int[] times = new int[16];
        now.beds.forEach(bed -> bed.forEach(word -> times[word]++));
        int most = Arrays.stream(times).max().getAsInt();
        if (most == 0) {
            return -1;
        }
        int word = 0;
        while (times[word] != most) {
            word++;
        }
        return what == 0 ? word : most;
    }

    long hearers(int word) {
        bad(in(word, 0, 15));
        int bits = 0;
        for (int r = 0; r < now.heard.size(); r++) {
            bits |= now.heard.get(r).contains(word) ? 1 << r : 0;
        }
        return bits;
    }

    long news(int r, int n) {
        readerExists(r);
        bad(in(n, 1, 30));
        Time then = new Time(now);
        then.wind(n);
        return bits(then.heard.get(r)) - bits(now.heard.get(r));
    }

    long full(int what) {
        bad(in(what, 0, 1));
        int bits = 0;
        for (int b = 0; b < now.beds.size(); b++) {
            bits |= now.beds.get(b).size() == (what == 0 ? 12 : 0) ? 1 << b : 0;
        }
        return bits;
    }

    long drains(int b) {
        bedExists(b);
        int bits = 0;
        for (int l = 0; l < now.letters.size(); l++) {
            bits |= ground.letters.get(l).bed == b && !now.letters.get(l).isEmpty() ? 1 << l : 0;
        }
        return bits;
    }

    long unread(int r) {
        readerExists(r);
        Set<Integer> words = new HashSet<>(now.beds.get(now.places.get(r)));
        words.removeAll(now.heard.get(r));
        return bits(words);
    }

    long coming(int b, int what) {
        bedExists(b);
        bad(in(what, 0, 1));
        int words = 0;
        for (int l = 0; l < now.letters.size(); l++) {
            boolean counts = ground.letters.get(l).bed == b && now.tied.contains(l) == (what == 0);
            words += counts ? now.letters.get(l).size() : 0;
        }
        return words;
    }

    long shared(int r, int o) {
        readerExists(r);
        readerExists(o);
        Set<Integer> words = new HashSet<>(now.heard.get(r));
        words.retainAll(now.heard.get(o));
        return words.size();
    }

    private long seed;

    private int draw(int by) {
        seed = seed * 1103515245L + 12345L & 0xffffffffL;
        return (int) ((seed / 65536 % 32768) % by);
    }

    private Time afterSummer(int start, int q, int years) {
        Time then = new Time(now);
        seed = start & 0xffffffffL;
        for (int i = 0; i < 2 * years; i++) {
            if (draw(16) < q) {
                then.rain(draw(20) + 1);
            } else {
                then.wind(draw(30) + 1);
            }
            if (!then.places.isEmpty()) {
                int r = draw(then.places.size());
                int b = draw(then.beds.size());
                then.walk(r, b);
            }
            if (i % 2 == 1) {
                then.year();
            }
        }
        return then;
    }

    long summer(int start, int q, int years, int what) {
        bad(in(q, 0, 16) && in(years, 1, 48) && in(what, 0, 3));
        Time then = afterSummer(start, q, years);
        Set<Integer> heard = new HashSet<>();
        then.heard.forEach(heard::addAll);
        int[] answers = {then.left(), then.grown.size(), then.lying(), bits(heard)};
        return answers[what];
    }

    long span(int[] x) {
        bad(in(x[1], 1, 10) && in(x[2], 0, 16) && in(x[3], 1, 48) && in(x[4], 0, 2) && in(x[5], 0, ground.far.size() - 1));
        List<Integer> left = new ArrayList<>();
        int having = 0;
        for (int i = 0; i < x[1]; i++) {
            Time then = afterSummer(x[0] + i, x[2], x[3]);
            left.add(then.left());
            having += then.beds.get(x[5]).isEmpty() ? 0 : 1;
        }
        left.sort(null);
        int[] answers = {left.get(0), left.get(left.size() - 1), having};
        return answers[x[4]];
    }

    long image() {
        if (images.size() == 3) {
            return -1;
        }
        List<Time> kept = new ArrayList<>();
        works.forEach(work -> kept.add(new Time(work)));
        images.push(new Past(new Time(now), kept));
        return images.size();
    }

    long restore() {
        if (images.isEmpty()) {
            return -1;
        }
        Past past = images.pop();
        now = past.time;
        works = past.works;
        refused = 0;
        return images.size();
    }

    long status(int what) {
        return in(what, 0, 1) ? thrown[what] : -1;
    }

    long count(int what) {
        int[] answers = {images.size(), tape.length(), works.size()};
        return in(what, 0, 2) ? answers[what] : -1;
    }
}
