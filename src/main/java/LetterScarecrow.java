import java.util.NoSuchElementException;

/** A scarecrow stuffed with letters not sent; ../shared/DOC.md says what each call promises. */
public final class LetterScarecrow {
    public static final int NONE = -1;

    private static final int TAPE_BYTES = 600;
    private static final int LAW_BYTES = 150;
    private static final int WORK_BYTES = 150;
    private static final int BOOK_BYTES = 60;
    private static final int MOST_OPEN = 6;

    private static final int MOST_BEDS = 6;
    private static final int MOST_LETTERS = 6;
    private static final int MOST_READERS = 5;
    private static final int MOST_WORDS = 8;
    private static final int KINDS_OF_WORDS = 16;
    private static final int MOST_FAR = 30;
    private static final int BED_ROOM = 12;
    private static final int MOST_GROWN = 60;
    private static final int MOST_WET = 99;
    private static final int MOST_RUN = 8;
    private static final int MOST_RAIN = 20;
    private static final int MOST_WIND = 30;
    private static final int LAST_YEAR = 400;
    private static final int MOST_RAINS = 40;

    private static final int MOST_WORKS = 16;
    private static final int MOST_IMAGES = 3;
    private static final int TOO_MANY_WORKS = -20;

    private static final int CANNOT_STAND = 1;
    private static final int NO_SUCH_NUMBER = 2;
    private static final int TOO_MANY = 3;

    /** In a BOOK, and as an answer of State.lastAfter: nothing lies there. */
    private static final int NOTHING = 16;
    private static final int MOST_TRIED = 9;

    private final Tape tape = new Tape();
    private final State now = new State();
    /** What is asked is tried on this one, so that nothing stays changed. */
    private final State trial = new State();
    private final Work task = new Work();
    private final Summer season = new Summer();
    private final Stuffing stuffing = new Stuffing();
    private final Saved[] images = new Saved[MOST_IMAGES];
    private final int[] row = new int[KINDS_OF_WORDS + 1];

    /** A text is read into the spare one: with a FAULT the other stays as it is. */
    private Plan plan = new Plan();
    private Plan sparePlan = new Plan();
    private Law rule = new Law();
    private Law spareRule = new Law();
    private Book notes = new Book();
    private Book spareNotes = new Book();

    /** The latest WORK that can be undone, with those ahead of it behind it. */
    private Saved latest = null;
    private int imageMany = 0;
    private int refusedSteps = 0;
    private int missing = 0;
    private int misused = 0;

    public LetterScarecrow() {
    }

    public int feed(int a, int b, int c, int d, int e) {
        if (!tape.hasRoom()) {
            return NONE;
        }
        tape.put(a);
        tape.put(b);
        tape.put(c);
        tape.put(d);
        tape.put(e);
        return tape.held;
    }

    public int garden(int n) throws IllegalArgumentException {
        needText(n, TAPE_BYTES);
        tape.open(n);
        sparePlan.read(tape);
        tape.empty();
        if (!tape.isSound()) {
            return tape.answer();
        }
        Plan old = plan;
        plan = sparePlan;
        sparePlan = old;
        rule.makePlain();
        notes.clear();
        forgetImages();
        latest = null;
        refusedSteps = 0;
        now.begin(plan);
        return plan.letters;
    }

    public int law(int n) throws IllegalArgumentException {
        needText(n, LAW_BYTES);
        tape.open(n);
        spareRule.read(tape);
        tape.empty();
        if (!tape.isSound()) {
            return tape.answer();
        }
        Law old = rule;
        rule = spareRule;
        spareRule = old;
        return 1;
    }

    public int work(int n) throws IllegalArgumentException {
        needText(n, WORK_BYTES);
        if (worksLeft() >= MOST_WORKS) {
            tape.open(0);
            tape.empty();
            return TOO_MANY_WORKS;
        }
        tape.open(n);
        task.read(tape, plan);
        tape.empty();
        if (!tape.isSound()) {
            return tape.answer();
        }
        latest = new Saved(now, latest, worksLeft() + 1);
        int done = task.perform(now, plan, rule);
        refusedSteps = task.refused;
        return done;
    }

    public int book(int n) throws IllegalArgumentException {
        needText(n, BOOK_BYTES);
        tape.open(n);
        spareNotes.read(tape, plan.beds);
        tape.empty();
        if (!tape.isSound()) {
            return tape.answer();
        }
        Book old = notes;
        notes = spareNotes;
        spareNotes = old;
        return notes.lines;
    }

    public int fault() {
        return tape.faultPlace;
    }

    public int undo() {
        if (latest == null) {
            return NONE;
        }
        now.copy(latest.state);
        latest = latest.below;
        refusedSteps = 0;
        return worksLeft();
    }

    public int told(int what) throws IllegalArgumentException {
        needRange(what, 0, 11);
        switch (what) {
            case 0: return plan.beds;
            case 1: return plan.letters;
            case 2: return plan.readers;
            case 3: return now.year;
            case 4: return now.wet;
            case 5: return now.leftOfAll(plan);
            case 6: return now.lyingInAll();
            case 7: return now.lost;
            case 8: return now.eaten;
            case 9: return notes.lines;
            case 10: return refusedSteps;
            default: return now.ripeMany;
        }
    }

    public int letter(int letter, int what) throws NoSuchElementException, IllegalArgumentException {
        needOneOf(letter, plan.letters);
        needRange(what, 0, 4);
        switch (what) {
            case 0: return plan.drain[letter];
            case 1: return plan.length[letter];
            case 2: return now.leftOf(plan, letter);
            case 3: return now.nextOf(plan, letter);
            default: return now.isTied(letter) ? 1 : 0;
        }
    }

    public int word(int letter, int k) throws NoSuchElementException, IllegalArgumentException {
        needOneOf(letter, plan.letters);
        needRange(k, 0, plan.length[letter] - 1);
        return plan.wordAt(letter, k);
    }

    public int bed(int bed, int what) throws NoSuchElementException, IllegalArgumentException {
        needOneOf(bed, plan.beds);
        needRange(what, 0, 4);
        switch (what) {
            case 0: return plan.far[bed];
            case 1: return now.many[bed];
            case 2: return now.wordsIn(bed);
            case 3: return now.lyingAt(bed, 0);
            default: return now.readersAt(plan, bed);
        }
    }

    public int lies(int bed, int k) throws NoSuchElementException, IllegalArgumentException {
        needOneOf(bed, plan.beds);
        needPlace(k);
        return now.lyingAt(bed, k);
    }

    public int reader(int reader, int what) throws NoSuchElementException, IllegalArgumentException {
        needOneOf(reader, plan.readers);
        needRange(what, 0, 1);
        return what == 0 ? now.place[reader] : now.heard[reader];
    }

    public int grown(int k) throws IllegalArgumentException {
        needPlace(k);
        return k < now.ripeMany && k < MOST_GROWN ? now.ripe[k] : NONE;
    }

    public int runs(int letter, int n) throws NoSuchElementException, IllegalArgumentException {
        needOneOf(letter, plan.letters);
        needRange(n, 1, MOST_RAIN);
        return now.runOf(plan, rule, letter, n, now.wetBy(n));
    }

    public int would(int rain, int wet, int left, int far, int lies, int year, int letter)
            throws IllegalArgumentException {
        needRange(rain, 0, MOST_RAIN);
        needRange(wet, 0, MOST_WET);
        needRange(left, 0, MOST_WORDS);
        needRange(far, 0, MOST_FAR);
        needRange(lies, 0, BED_ROOM);
        needRange(year, 0, LAST_YEAR);
        needRange(letter, 0, MOST_LETTERS - 1);
        return rule.tells(rain, wet, left, far, lies, year, letter);
    }

    public int ahead(int n, int what) throws IllegalArgumentException {
        needRange(n, 0, 99);
        needRange(what, 0, 2);
        trial.copy(now);
        for (int i = 0; i < n; i++) {
            trial.passYear(plan);
        }
        switch (what) {
            case 0: return trial.lyingInAll();
            case 1: return trial.ripeMany;
            default: return trial.wet;
        }
    }

    public int rains(int bed, int word, int n) throws NoSuchElementException, IllegalArgumentException {
        needOneOf(bed, plan.beds);
        needRange(word, 0, KINDS_OF_WORDS - 1);
        needRange(n, 1, MOST_RAIN);
        trial.copy(now);
        for (int i = 0; i < MOST_RAINS; i++) {
            if (has(trial.wordsIn(bed), word)) {
                return i;
            }
            trial.pour(plan, rule, n);
        }
        return has(trial.wordsIn(bed), word) ? MOST_RAINS : NONE;
    }

    public int stuff() {
        stuffing.find(now, plan);
        return stuffing.seams;
    }

    public int stuffed(int k) throws IllegalArgumentException {
        needPlace(k);
        stuffing.find(now, plan);
        return k < stuffing.places && k < MOST_LETTERS ? stuffing.order[k] : NONE;
    }

    public int all(int words) throws IllegalArgumentException {
        needRange(words, 0, (1 << KINDS_OF_WORDS) - 1);
        return fewestBeds(words);
    }

    public int tour(int reader) throws NoSuchElementException {
        needOneOf(reader, plan.readers);
        return fewestBeds(now.wordsInAll(plan) & ~now.heard[reader]);
    }

    public int fits(int what) throws IllegalArgumentException {
        needRange(what, 0, 1);
        int pairs = 0;
        int first = NONE;
        for (int letter = 0; letter < plan.letters; letter++) {
            for (int n = 1; n <= MOST_TRIED; n++) {
                if (notes.isRight(now, plan, letter, n)) {
                    pairs++;
                    first = first == NONE ? 10 * letter + n : first;
                }
            }
        }
        return what == 0 ? pairs : first;
    }

    public int look(int what) throws IllegalArgumentException {
        needRange(what, 0, 1);
        int best = NONE;
        int fewest = NONE;
        for (int bed = 0; bed < plan.beds; bed++) {
            if (notes.last[bed] != NONE) {
                continue;
            }
            int worst = mostLeftBy(bed);
            if (best == NONE || worst < fewest) {
                best = bed;
                fewest = worst;
            }
        }
        return what == 0 ? best : fewest;
    }

    public long pods(int n, int k, int q, int half) throws IllegalArgumentException {
        needRange(n, 0, 12);
        needRange(k, 0, 13);
        needRange(q, 0, 16);
        needRange(half, 0, 1);
        long above = 0;
        long ways = 1;
        for (int j = 0; j <= n; j++) {
            if (j >= k) {
                above += ways * power(q, j) * power(16 - q, n - j);
            }
            ways = ways * (n - j) / (j + 1);
        }
        long below = power(16, n);
        // below is a power of two, so nothing but twos can be common to both
        for (int i = 0; i < 48 && below > 1 && above % 2 == 0; i++) {
            above /= 2;
            below /= 2;
        }
        return half == 0 ? above : below;
    }

    public int she(int v, int w, int what) throws IllegalArgumentException {
        needRange(v, 0, 99);
        needRange(w, 0, 99);
        needRange(what, 0, 2);
        int rests = 0;
        int first = NONE;
        int together = 0;
        for (int one = 0; one <= 1; one++) {
            for (int other = 0; other <= 1; other++) {
                if (isContent(one, other, v, w) && isContent(other, one, v, w)) {
                    rests++;
                    if (first == NONE) {
                        first = 10 * one + other;
                        together = getting(one, other, v, w) + getting(other, one, v, w);
                    }
                }
            }
        }
        switch (what) {
            case 0: return rests;
            case 1: return first;
            default: return together;
        }
    }

    public int seed(int bed, int beds, int n) throws NoSuchElementException, IllegalArgumentException {
        needOneOf(bed, plan.beds);
        needRange(beds, 0, (1 << plan.beds) - 1);
        needRange(n, 0, 99);
        if (!has(beds, bed)) {
            return 0;
        }
        for (int bound = BED_ROOM; bound > 0; bound--) {
            if (givenBy(bound, beds) <= n) {
                return Math.min(bound, now.many[bed]);
            }
        }
        return 0;
    }

    public int often(int what) throws IllegalArgumentException {
        needRange(what, 0, 1);
        int best = NONE;
        int most = NONE;
        for (int word = 0; word < KINDS_OF_WORDS; word++) {
            int times = now.timesOf(plan, word);
            if (times > 0 && times > most) {
                best = word;
                most = times;
            }
        }
        return what == 0 ? best : most;
    }

    public int hearers(int word) throws IllegalArgumentException {
        needRange(word, 0, KINDS_OF_WORDS - 1);
        int bits = 0;
        for (int reader = 0; reader < plan.readers; reader++) {
            if (has(now.heard[reader], word)) {
                bits |= 1 << reader;
            }
        }
        return bits;
    }

    public int news(int reader, int n) throws NoSuchElementException, IllegalArgumentException {
        needOneOf(reader, plan.readers);
        needRange(n, 1, MOST_WIND);
        return now.toldBy(plan, reader, n) & ~now.heard[reader];
    }

    public int full(int what) throws IllegalArgumentException {
        needRange(what, 0, 1);
        int wanted = what == 0 ? BED_ROOM : 0;
        int bits = 0;
        for (int bed = 0; bed < plan.beds; bed++) {
            if (now.many[bed] == wanted) {
                bits |= 1 << bed;
            }
        }
        return bits;
    }

    public int drains(int bed) throws NoSuchElementException {
        needOneOf(bed, plan.beds);
        int bits = 0;
        for (int letter = 0; letter < plan.letters; letter++) {
            if (plan.drain[letter] == bed && now.leftOf(plan, letter) > 0) {
                bits |= 1 << letter;
            }
        }
        return bits;
    }

    public int unread(int reader) throws NoSuchElementException {
        needOneOf(reader, plan.readers);
        return now.wordsIn(now.place[reader]) & ~now.heard[reader];
    }

    public int coming(int bed, int what) throws NoSuchElementException, IllegalArgumentException {
        needOneOf(bed, plan.beds);
        needRange(what, 0, 1);
        int words = 0;
        for (int letter = 0; letter < plan.letters; letter++) {
            if (plan.drain[letter] == bed && now.isTied(letter) == (what == 0)) {
                words += now.leftOf(plan, letter);
            }
        }
        return words;
    }

    public int shared(int reader, int other) throws NoSuchElementException {
        needOneOf(reader, plan.readers);
        needOneOf(other, plan.readers);
        return Integer.bitCount(now.heard[reader] & now.heard[other]);
    }

    public int summer(int seed, int q, int years, int what) throws IllegalArgumentException {
        needRange(q, 0, 16);
        needRange(years, 1, 48);
        needRange(what, 0, 3);
        trial.copy(now);
        season.pass(trial, plan, rule, seed, q, years);
        switch (what) {
            case 0: return trial.leftOfAll(plan);
            case 1: return trial.ripeMany;
            case 2: return trial.lyingInAll();
            default: return trial.heardByAny(plan);
        }
    }

    public int span(int seed, int many, int q, int years, int what, int bed) throws IllegalArgumentException {
        needRange(many, 1, 10);
        needRange(q, 0, 16);
        needRange(years, 1, 48);
        needRange(what, 0, 2);
        needRange(bed, 0, plan.beds - 1);
        int fewest = MOST_LETTERS * MOST_WORDS;
        int most = 0;
        int having = 0;
        for (int i = 0; i < many; i++) {
            trial.copy(now);
            season.pass(trial, plan, rule, seed + i, q, years);
            fewest = Math.min(fewest, trial.leftOfAll(plan));
            most = Math.max(most, trial.leftOfAll(plan));
            having += trial.many[bed] > 0 ? 1 : 0;
        }
        switch (what) {
            case 0: return fewest;
            case 1: return most;
            default: return having;
        }
    }

    public int image() {
        if (imageMany >= MOST_IMAGES) {
            return NONE;
        }
        images[imageMany] = new Saved(now, latest, worksLeft());
        imageMany++;
        return imageMany;
    }

    public int restore() {
        if (imageMany <= 0 || imageMany > MOST_IMAGES) {
            return NONE;
        }
        Saved image = images[imageMany - 1];
        if (image == null) {
            return NONE;
        }
        imageMany--;
        images[imageMany] = null;
        now.copy(image.state);
        latest = image.below;
        refusedSteps = 0;
        return imageMany;
    }

    public int status(int what) {
        switch (what) {
            case 0: return missing;
            case 1: return misused;
            default: return NONE;
        }
    }

    public int count(int what) {
        switch (what) {
            case 0: return imageMany;
            case 1: return tape.held;
            case 2: return worksLeft();
            default: return NONE;
        }
    }

    private void needRange(int value, int least, int most) {
        if (value < least || value > most) {
            misused++;
            throw new IllegalArgumentException();
        }
    }

    private void needPlace(int k) {
        if (k < 0) {
            misused++;
            throw new IllegalArgumentException();
        }
    }

    private void needOneOf(int number, int many) {
        if (number < 0 || number >= many) {
            missing++;
            throw new NoSuchElementException();
        }
    }

    private void needText(int n, int most) {
        needRange(n, 0, Math.min(most, tape.held));
    }

    private int worksLeft() {
        return latest == null ? 0 : latest.works;
    }

    private void forgetImages() {
        for (int i = 0; i < MOST_IMAGES; i++) {
            images[i] = null;
        }
        imageMany = 0;
    }

    /** Sets are tried from the least bits on, so that of as few BEDS the least bits stay. */
    private int fewestBeds(int words) {
        for (int bed = 0; bed < plan.beds; bed++) {
            row[bed] = now.wordsIn(bed);
        }
        int best = NONE;
        int fewest = MOST_BEDS + 1;
        for (int set = 0; set < 1 << plan.beds; set++) {
            int missed = words;
            for (int bed = 0; bed < plan.beds; bed++) {
                missed &= has(set, bed) ? ~row[bed] : -1;
            }
            if (missed == 0 && Integer.bitCount(set) < fewest) {
                best = set;
                fewest = Integer.bitCount(set);
            }
        }
        return best;
    }

    /** How many pairs that fit are left at the worst, once it is known what lies last in the BED. */
    private int mostLeftBy(int bed) {
        for (int i = 0; i <= NOTHING; i++) {
            row[i] = 0;
        }
        int most = 0;
        for (int letter = 0; letter < plan.letters; letter++) {
            for (int n = 1; n <= MOST_TRIED; n++) {
                if (notes.isRight(now, plan, letter, n)) {
                    int last = now.lastAfter(plan, bed, letter, n);
                    if (last >= 0 && last <= NOTHING) {
                        row[last]++;
                        most = Math.max(most, row[last]);
                    }
                }
            }
        }
        return most;
    }

    private int givenBy(int bound, int beds) {
        int given = 0;
        for (int bed = 0; bed < plan.beds; bed++) {
            given += has(beds, bed) ? Math.min(bound, now.many[bed]) : 0;
        }
        return given;
    }

    private static boolean has(int bits, int place) {
        return (bits >> place & 1) == 1;
    }

    private static long power(int base, int n) {
        long product = 1;
        for (int i = 0; i < n; i++) {
            product *= base;
        }
        return product;
    }

    /** What he has who does the first thing while the other one does the second (0 speaks, 1 keeps still). */
    private static int getting(int his, int others, int v, int w) {
        if (his == 0) {
            return others == 0 ? -w : 0;
        }
        return others == 0 ? v : v - w;
    }

    private static boolean isContent(int his, int others, int v, int w) {
        return getting(his, others, v, w) >= getting(1 - his, others, v, w);
    }

    /** The TAPE, and the reading of a text from it; the first FAULT stays, and ends the reading. */
    private static final class Tape {
        final byte[] bytes = new byte[TAPE_BYTES];
        int held = 0;
        int end = 0;
        int at = 0;
        /** Where the first byte of what was looked at latest is. */
        int start = 0;
        int faultKind = 0;
        int faultPlace = NONE;

        boolean hasRoom() {
            return held + 20 <= TAPE_BYTES;
        }

        void put(int four) {
            for (int shift = 24; shift >= 0 && held < TAPE_BYTES; shift -= 8) {
                bytes[held] = (byte) (four >> shift);
                held++;
            }
        }

        void open(int n) {
            end = n;
            at = 0;
            start = 0;
            faultKind = 0;
            faultPlace = NONE;
        }

        void empty() {
            held = 0;
        }

        boolean isSound() {
            return faultKind == 0;
        }

        int answer() {
            return faultKind - 10;
        }

        void blame(int kind) {
            if (faultKind == 0) {
                faultKind = kind;
                faultPlace = start;
            }
        }

        /** The byte that comes next behind blanks; NONE at the end, or behind a FAULT. */
        int peek() {
            if (faultKind != 0) {
                return NONE;
            }
            while (at < end && at < TAPE_BYTES && bytes[at] == ' ') {
                at++;
            }
            start = at;
            return at < end && at < TAPE_BYTES ? bytes[at] & 255 : NONE;
        }

        int byteAt(int place) {
            return place >= 0 && place < end && place < TAPE_BYTES ? bytes[place] & 255 : NONE;
        }

        boolean isAtEnd() {
            return peek() == NONE;
        }

        boolean isAtNumber() {
            return isDigit(peek());
        }

        boolean takes(char sign) {
            if (peek() != sign) {
                return false;
            }
            at++;
            return true;
        }

        /** Takes the word, if all small letters that stand next are just it. */
        boolean takes(String wanted) {
            peek();
            int length = wanted.length();
            for (int i = 0; i < length; i++) {
                if (byteAt(at + i) != wanted.charAt(i)) {
                    return false;
                }
            }
            if (faultKind != 0 || isSmallLetter(byteAt(at + length))) {
                return false;
            }
            at += length;
            return true;
        }

        void need(char sign) {
            if (peek() == sign) {
                at++;
            } else {
                blame(CANNOT_STAND);
            }
        }

        void needEnd() {
            if (!isAtEnd()) {
                blame(CANNOT_STAND);
            }
        }

        /** The number that stands next, if it is one of these; else 0, and a FAULT. */
        int number(int least, int most) {
            if (!isDigit(peek())) {
                blame(CANNOT_STAND);
                return 0;
            }
            int value = 0;
            while (at < end && isDigit(byteAt(at))) {
                // no number of any text goes beyond 999: what is greater may as well stay 1000
                value = Math.min(value * 10 + byteAt(at) - '0', 1000);
                at++;
            }
            if (value < least || value > most) {
                blame(NO_SUCH_NUMBER);
                return 0;
            }
            return value;
        }

        static boolean isDigit(int sign) {
            return sign >= '0' && sign <= '9';
        }

        static boolean isSmallLetter(int sign) {
            return sign >= 'a' && sign <= 'z';
        }
    }

    /** A GARDEN as it was told. */
    private static final class Plan {
        int beds = 0;
        int letters = 0;
        int readers = 0;
        final int[] far = new int[MOST_BEDS];
        final int[] drain = new int[MOST_LETTERS];
        final int[] length = new int[MOST_LETTERS];
        final int[] words = new int[MOST_LETTERS * MOST_WORDS];
        final int[] home = new int[MOST_READERS];

        /** Sixty CLAUSES need no count: there can't be more than 17 without a BED, LETTER or READER too many. */
        void read(Tape text) {
            beds = 0;
            letters = 0;
            readers = 0;
            for (int i = 0; i < TAPE_BYTES && !text.isAtEnd(); i++) {
                readClause(text);
                text.need(';');
            }
        }

        void readClause(Tape text) {
            if (text.takes("bed")) {
                readBed(text);
            } else if (text.takes("letter")) {
                readLetter(text);
            } else if (text.takes("reader")) {
                readReader(text);
            } else {
                text.blame(CANNOT_STAND);
            }
        }

        void readBed(Tape text) {
            if (beds >= MOST_BEDS) {
                text.blame(TOO_MANY);
                return;
            }
            far[beds] = text.number(0, MOST_FAR);
            beds++;
        }

        void readLetter(Tape text) {
            if (letters >= MOST_LETTERS) {
                text.blame(TOO_MANY);
                return;
            }
            drain[letters] = text.number(0, beds - 1);
            int many = 0;
            do {
                words[letters * MOST_WORDS + many] = text.number(0, KINDS_OF_WORDS - 1);
                many++;
            } while (many < MOST_WORDS && text.isAtNumber());
            if (text.isAtNumber()) {
                // a 9th that is no WORD at all is the lesser FAULT
                text.number(0, KINDS_OF_WORDS - 1);
                text.blame(TOO_MANY);
            }
            length[letters] = many;
            letters++;
        }

        void readReader(Tape text) {
            if (readers >= MOST_READERS) {
                text.blame(TOO_MANY);
                return;
            }
            home[readers] = text.number(0, beds - 1);
            readers++;
        }

        int wordAt(int letter, int k) {
            return k >= 0 && k < MOST_WORDS ? words[letter * MOST_WORDS + k] : NONE;
        }
    }

    /** A LAW as a row of what to put on a stack (numbers, told values) and how to join the two on top. */
    private static final class Law {
        static final int RAIN = -1;
        static final int WET = -2;
        static final int LEFT = -3;
        static final int FAR = -4;
        static final int LIES = -5;
        static final int YEAR = -6;
        static final int LETTER = -7;
        static final int PLUS = -8;
        static final int LESS = -9;
        static final int TIMES = -10;
        static final int OVER = -11;
        static final int REST = -12;
        static final int LEAST = -13;
        static final int MOST = -14;
        static final int MOST_NUMBER = 999;
        /** Seven levels leave three values each at most (of a sum, a product, a pair) below what is read. */
        static final int STACK = 32;

        final int[] code = new int[LAW_BYTES];
        final int[] values = new int[7];
        final int[] stack = new int[STACK];
        int length = 0;

        Law() {
            makePlain();
        }

        void makePlain() {
            length = 0;
            add(RAIN);
            add(4);
            add(OVER);
            add(1);
            add(PLUS);
        }

        void add(int step) {
            if (length < LAW_BYTES) {
                code[length] = step;
                length++;
            }
        }

        void read(Tape text) {
            length = 0;
            readSum(text, 0);
            text.needEnd();
        }

        private void readSum(Tape text, int open) {
            readProduct(text, open);
            for (int i = 0; i < LAW_BYTES; i++) {
                int step = text.takes('+') ? PLUS : text.takes('-') ? LESS : 0;
                if (step == 0) {
                    return;
                }
                readProduct(text, open);
                add(step);
            }
        }

        private void readProduct(Tape text, int open) {
            readUnit(text, open);
            for (int i = 0; i < LAW_BYTES; i++) {
                int step = text.takes('*') ? TIMES : text.takes('/') ? OVER : text.takes('%') ? REST : 0;
                if (step == 0) {
                    return;
                }
                readUnit(text, open);
                add(step);
            }
        }

        private void readUnit(Tape text, int open) {
            if (text.isAtNumber()) {
                add(text.number(0, MOST_NUMBER));
            } else if (text.takes('(')) {
                readOpen(text, open, 0);
            } else if (text.takes("least")) {
                readOpen(text, open, LEAST);
            } else if (text.takes("most")) {
                readOpen(text, open, MOST);
            } else {
                readValue(text);
            }
        }

        private void readOpen(Tape text, int open, int step) {
            if (open >= MOST_OPEN) {
                text.blame(TOO_MANY);
                return;
            }
            if (step == 0) {
                readSum(text, open + 1);
                text.need(')');
                return;
            }
            text.need('[');
            readSum(text, open + 1);
            text.need(',');
            readSum(text, open + 1);
            text.need(']');
            add(step);
        }

        void readValue(Tape text) {
            int step = text.takes("rain") ? RAIN : text.takes("wet") ? WET : text.takes("left") ? LEFT
                : text.takes("far") ? FAR : text.takes("lies") ? LIES : text.takes("year") ? YEAR
                : text.takes("letter") ? LETTER : 0;
            if (step == 0) {
                text.blame(CANNOT_STAND);
                return;
            }
            add(step);
        }

        /** RUN by these values. */
        int tells(int rain, int wet, int left, int far, int lies, int year, int letter) {
            values[0] = rain;
            values[1] = wet;
            values[2] = left;
            values[3] = far;
            values[4] = lies;
            values[5] = year;
            values[6] = letter;
            int top = 0;
            for (int i = 0; i < length && i < LAW_BYTES; i++) {
                int step = code[i];
                if (step >= LETTER) {
                    if (top < STACK) {
                        stack[top] = step >= 0 ? step : values[-1 - step];
                        top++;
                    }
                } else if (top >= 2) {
                    top--;
                    stack[top - 1] = joined(step, stack[top - 1], stack[top]);
                }
            }
            return stack[0] < 0 ? 0 : stack[0] > MOST_RUN ? MOST_RUN : stack[0];
        }

        static int joined(int step, int a, int b) {
            switch (step) {
                case PLUS: return a + b;
                case LESS: return a - b;
                case TIMES: return a * b;
                case OVER: return b == 0 ? 0 : a / b;
                case REST: return b == 0 ? 0 : a % b;
                case LEAST: return a < b ? a : b;
                default: return a > b ? a : b;
            }
        }
    }

    /** A WORK as a row of STEPS; behind the last one of each again stands an END that leads back to it. */
    private static final class Work {
        static final int WIND = 0;
        static final int RAIN = 1;
        static final int TIE = 2;
        static final int WALK = 3;
        static final int EAT = 4;
        static final int YEAR = 5;
        static final int AGAIN = 6;
        static final int END = 7;
        static final int MOST_AGAIN = 30;
        static final int MOST_BEGUN = 200;
        /** Far above 200 STEPS with 30 empty rounds each. */
        static final int MOST_TURNS = 1000000;

        final int[] kind = new int[WORK_BYTES];
        final int[] first = new int[WORK_BYTES];
        final int[] second = new int[WORK_BYTES];
        final int[] rounds = new int[WORK_BYTES];
        int length = 0;
        int begun = 0;
        int refused = 0;

        void add(int step, int one, int two) {
            if (length < WORK_BYTES) {
                kind[length] = step;
                first[length] = one;
                second[length] = two;
                length++;
            }
        }

        void read(Tape text, Plan plan) {
            length = 0;
            readSteps(text, plan, 0);
            text.needEnd();
        }

        private void readSteps(Tape text, Plan plan, int open) {
            for (int i = 0; i < WORK_BYTES && !text.isAtEnd() && text.peek() != ']'; i++) {
                readStep(text, plan, open);
                text.need(';');
            }
        }

        private void readStep(Tape text, Plan plan, int open) {
            if (text.takes("wind")) {
                add(WIND, text.number(1, MOST_WIND), 0);
            } else if (text.takes("rain")) {
                add(RAIN, text.number(1, MOST_RAIN), 0);
            } else if (text.takes("tie")) {
                add(TIE, text.number(0, plan.letters - 1), 0);
            } else if (text.takes("walk")) {
                int reader = text.number(0, plan.readers - 1);
                add(WALK, reader, text.number(0, plan.beds - 1));
            } else if (text.takes("eat")) {
                add(EAT, text.number(0, plan.beds - 1), 0);
            } else if (text.takes("year")) {
                add(YEAR, 0, 0);
            } else if (text.takes("again")) {
                readAgain(text, plan, open);
            } else {
                text.blame(CANNOT_STAND);
            }
        }

        private void readAgain(Tape text, Plan plan, int open) {
            if (open >= MOST_OPEN) {
                text.blame(TOO_MANY);
                return;
            }
            int here = length;
            add(AGAIN, text.number(0, MOST_AGAIN), 0);
            text.need('[');
            readSteps(text, plan, open + 1);
            text.need(']');
            if (here < WORK_BYTES) {
                second[here] = length;
            }
            add(END, here, 0);
        }

        /** How many STEPS were done; how many were REFUSED stays in refused. */
        int perform(State state, Plan plan, Law law) {
            begun = 0;
            refused = 0;
            int done = 0;
            int at = 0;
            for (int turn = 0; turn < MOST_TURNS && at >= 0 && at < length && at < WORK_BYTES; turn++) {
                if (kind[at] == END) {
                    at = afterRound(at);
                    continue;
                }
                if (begun >= MOST_BEGUN) {
                    return done;
                }
                begun++;
                if (kind[at] == AGAIN) {
                    rounds[at] = first[at];
                    at = first[at] > 0 ? at + 1 : second[at] + 1;
                    continue;
                }
                if (isDone(state, plan, law, at)) {
                    done++;
                } else {
                    refused++;
                }
                at++;
            }
            return done;
        }

        int afterRound(int end) {
            int again = first[end];
            if (again < 0 || again >= WORK_BYTES) {
                return end + 1;
            }
            rounds[again]--;
            return rounds[again] > 0 ? again + 1 : end + 1;
        }

        boolean isDone(State state, Plan plan, Law law, int at) {
            switch (kind[at]) {
                case WIND: return state.blow(plan, first[at]);
                case WALK: return state.go(first[at], second[at]);
                case EAT: return state.clearBed(first[at]);
                case RAIN:
                    state.pour(plan, law, first[at]);
                    return true;
                case TIE:
                    state.tied ^= 1 << first[at];
                    return true;
                default:
                    if (state.year >= LAST_YEAR) {
                        return false;
                    }
                    state.passYear(plan);
                    return true;
            }
        }
    }

    /** A BOOK: for each BED what lies last there by its line; NONE without a line. */
    private static final class Book {
        final int[] last = new int[MOST_BEDS];
        int lines = 0;

        Book() {
            clear();
        }

        void clear() {
            lines = 0;
            for (int bed = 0; bed < MOST_BEDS; bed++) {
                last[bed] = NONE;
            }
        }

        void read(Tape text, int beds) {
            clear();
            for (int i = 0; i < BOOK_BYTES && !text.isAtEnd(); i++) {
                int bed = text.number(0, beds - 1);
                if (bed < 0 || bed >= MOST_BEDS || last[bed] != NONE) {
                    text.blame(NO_SUCH_NUMBER);
                    return;
                }
                last[bed] = text.number(0, NOTHING);
                lines++;
                text.need(';');
            }
        }

        /** Are all lines right, did n WORDS of the LETTER run out now? */
        boolean isRight(State state, Plan plan, int letter, int n) {
            for (int bed = 0; bed < plan.beds; bed++) {
                if (last[bed] != NONE && last[bed] != state.lastAfter(plan, bed, letter, n)) {
                    return false;
                }
            }
            return true;
        }
    }

    /** All that WORK changes. */
    private static final class State {
        int year = 0;
        int wet = 0;
        int lost = 0;
        int eaten = 0;
        int tied = 0;
        int ripeMany = 0;
        /** Of each LETTER, how many WORDS ran out of it. */
        final int[] gone = new int[MOST_LETTERS];
        final int[] place = new int[MOST_READERS];
        final int[] heard = new int[MOST_READERS];
        final int[] many = new int[MOST_BEDS];
        final int[] lying = new int[MOST_BEDS * BED_ROOM];
        final int[] ripe = new int[MOST_GROWN];

        void begin(Plan plan) {
            year = 0;
            wet = 0;
            lost = 0;
            eaten = 0;
            tied = 0;
            ripeMany = 0;
            for (int letter = 0; letter < MOST_LETTERS; letter++) {
                gone[letter] = 0;
            }
            for (int reader = 0; reader < MOST_READERS; reader++) {
                place[reader] = plan.home[reader];
                heard[reader] = 0;
            }
            for (int bed = 0; bed < MOST_BEDS; bed++) {
                many[bed] = 0;
            }
        }

        void copy(State other) {
            year = other.year;
            wet = other.wet;
            lost = other.lost;
            eaten = other.eaten;
            tied = other.tied;
            ripeMany = other.ripeMany;
            System.arraycopy(other.gone, 0, gone, 0, MOST_LETTERS);
            System.arraycopy(other.place, 0, place, 0, MOST_READERS);
            System.arraycopy(other.heard, 0, heard, 0, MOST_READERS);
            System.arraycopy(other.many, 0, many, 0, MOST_BEDS);
            System.arraycopy(other.lying, 0, lying, 0, MOST_BEDS * BED_ROOM);
            System.arraycopy(other.ripe, 0, ripe, 0, MOST_GROWN);
        }

        boolean isTied(int letter) {
            return has(tied, letter);
        }

        int leftOf(Plan plan, int letter) {
            return plan.length[letter] - gone[letter];
        }

        int leftOfAll(Plan plan) {
            int left = 0;
            for (int letter = 0; letter < plan.letters; letter++) {
                left += leftOf(plan, letter);
            }
            return left;
        }

        int nextOf(Plan plan, int letter) {
            return leftOf(plan, letter) > 0 ? plan.wordAt(letter, gone[letter]) : NONE;
        }

        int lyingAt(int bed, int k) {
            return k >= 0 && k < many[bed] && k < BED_ROOM ? lying[bed * BED_ROOM + k] : NONE;
        }

        int lyingInAll() {
            int words = 0;
            for (int bed = 0; bed < MOST_BEDS; bed++) {
                words += many[bed];
            }
            return words;
        }

        int wordsIn(int bed) {
            int bits = 0;
            for (int k = 0; k < many[bed]; k++) {
                bits |= 1 << lyingAt(bed, k);
            }
            return bits;
        }

        int wordsInAll(Plan plan) {
            int bits = 0;
            for (int bed = 0; bed < plan.beds; bed++) {
                bits |= wordsIn(bed);
            }
            return bits;
        }

        int timesOf(Plan plan, int word) {
            int times = 0;
            for (int bed = 0; bed < plan.beds; bed++) {
                for (int k = 0; k < many[bed]; k++) {
                    times += lyingAt(bed, k) == word ? 1 : 0;
                }
            }
            return times;
        }

        int readersAt(Plan plan, int bed) {
            int bits = 0;
            for (int reader = 0; reader < plan.readers; reader++) {
                bits |= place[reader] == bed ? 1 << reader : 0;
            }
            return bits;
        }

        int heardByAny(Plan plan) {
            int bits = 0;
            for (int reader = 0; reader < plan.readers; reader++) {
                bits |= heard[reader];
            }
            return bits;
        }

        int wetBy(int rain) {
            return Math.min(MOST_WET, wet + rain);
        }

        /** RUN of the LETTER, no more than are left; he may not be as wet by now. */
        int runOf(Plan plan, Law law, int letter, int rain, int wetThen) {
            int left = leftOf(plan, letter);
            int bed = plan.drain[letter];
            int run = law.tells(rain, wetThen, left, plan.far[bed], many[bed], year, letter);
            return Math.min(left, run);
        }

        /** What lies last in the BED, did n WORDS of the LETTER run out now: a WORD, or NOTHING. */
        int lastAfter(Plan plan, int bed, int letter, int n) {
            if (plan.drain[letter] == bed) {
                int run = Math.min(n, leftOf(plan, letter));
                int laid = Math.min(run, BED_ROOM - many[bed]);
                if (laid > 0) {
                    return plan.wordAt(letter, gone[letter] + laid - 1);
                }
            }
            return many[bed] > 0 ? lyingAt(bed, many[bed] - 1) : NOTHING;
        }

        /** WORDS that a wind tells a READER, heard before or not. */
        int toldBy(Plan plan, int reader, int wind) {
            if (plan.far[place[reader]] > wind) {
                return 0;
            }
            int bits = 0;
            for (int letter = 0; letter < plan.letters; letter++) {
                bits |= leftOf(plan, letter) > 0 ? 1 << nextOf(plan, letter) : 0;
            }
            return bits;
        }

        boolean blow(Plan plan, int wind) {
            boolean isNew = false;
            for (int reader = 0; reader < plan.readers; reader++) {
                int words = toldBy(plan, reader, wind);
                isNew = isNew || (words & ~heard[reader]) != 0;
                heard[reader] |= words;
            }
            return isNew;
        }

        void pour(Plan plan, Law law, int rain) {
            wet = wetBy(rain);
            for (int letter = 0; letter < plan.letters; letter++) {
                // a LETTER without WORDS asks no LAW: nothing could come of it
                if (!isTied(letter) && leftOf(plan, letter) > 0) {
                    runOut(plan, letter, runOf(plan, law, letter, rain, wet));
                }
            }
        }

        void runOut(Plan plan, int letter, int run) {
            int bed = plan.drain[letter];
            for (int i = 0; i < run; i++) {
                if (many[bed] < BED_ROOM) {
                    lying[bed * BED_ROOM + many[bed]] = nextOf(plan, letter);
                    many[bed]++;
                } else {
                    lost++;
                }
                gone[letter]++;
            }
        }

        boolean go(int reader, int bed) {
            if (place[reader] == bed) {
                return false;
            }
            place[reader] = bed;
            heard[reader] |= wordsIn(bed);
            return true;
        }

        boolean clearBed(int bed) {
            if (many[bed] == 0) {
                return false;
            }
            eaten += many[bed];
            many[bed] = 0;
            return true;
        }

        void passYear(Plan plan) {
            for (int bed = 0; bed < plan.beds; bed++) {
                if (many[bed] > 0) {
                    ripen(lyingAt(bed, 0));
                    System.arraycopy(lying, bed * BED_ROOM + 1, lying, bed * BED_ROOM, BED_ROOM - 1);
                    many[bed]--;
                }
            }
            wet /= 2;
            year++;
        }

        void ripen(int word) {
            if (ripeMany >= MOST_GROWN) {
                System.arraycopy(ripe, 1, ripe, 0, MOST_GROWN - 1);
                ripeMany = MOST_GROWN - 1;
            }
            ripe[ripeMany] = word;
            ripeMany++;
        }
    }

    /** How all was, and the WORKS that could be undone then; below is never changed, so images share it. */
    private static final class Saved {
        final State state = new State();
        final Saved below;
        final int works;

        Saved(State now, Saved below, int works) {
            state.copy(now);
            this.below = below;
            this.works = works;
        }
    }

    /** STUFF, by the most SEAMS that can still come behind each LETTER for each set of the others. */
    private static final class Stuffing {
        final int[] order = new int[MOST_LETTERS];
        final int[] seam = new int[MOST_LETTERS * MOST_LETTERS];
        final int[] toCome = new int[(1 << MOST_LETTERS) * MOST_LETTERS];
        int places = 0;
        int seams = 0;

        void find(State state, Plan plan) {
            int letters = 0;
            for (int letter = 0; letter < plan.letters; letter++) {
                letters |= state.leftOf(plan, letter) > 0 ? 1 << letter : 0;
                for (int next = 0; next < plan.letters; next++) {
                    int last = plan.wordAt(letter, plan.length[letter] - 1);
                    seam[letter * MOST_LETTERS + next] = last == state.nextOf(plan, next) ? 1 : 0;
                }
            }
            for (int set = 0; set < 1 << plan.letters; set++) {
                for (int letter = 0; letter < plan.letters; letter++) {
                    int best = bestBehind(letter, set);
                    toCome[set * MOST_LETTERS + letter] = best == NONE ? 0 : worth(letter, best, set);
                }
            }
            choose(letters);
        }

        void choose(int letters) {
            places = 0;
            seams = 0;
            int rest = letters;
            int before = NONE;
            for (int i = 0; i < MOST_LETTERS && rest != 0; i++) {
                int best = bestBehind(before, rest);
                if (best == NONE) {
                    return;
                }
                seams = i == 0 ? worth(before, best, rest) : seams;
                order[i] = best;
                places++;
                rest &= ~(1 << best);
                before = best;
            }
        }

        /** Of the LETTERS in the set, the first one by which most SEAMS come. */
        int bestBehind(int before, int set) {
            int best = NONE;
            for (int next = 0; next < MOST_LETTERS; next++) {
                if (has(set, next) && (best == NONE || worth(before, next, set) > worth(before, best, set))) {
                    best = next;
                }
            }
            return best;
        }

        int worth(int before, int next, int set) {
            int here = before == NONE ? 0 : seam[before * MOST_LETTERS + next];
            return here + toCome[(set & ~(1 << next)) * MOST_LETTERS + next];
        }
    }

    /** A SUMMER; it holds the SEED while it goes on. */
    private static final class Summer {
        int drawn = 0;

        void pass(State state, Plan plan, Law law, int seed, int q, int years) {
            drawn = seed;
            for (int i = 0; i < years; i++) {
                passHalf(state, plan, law, q);
                passHalf(state, plan, law, q);
                state.passYear(plan);
            }
        }

        void passHalf(State state, Plan plan, Law law, int q) {
            if (draw(16) < q) {
                state.pour(plan, law, draw(MOST_RAIN) + 1);
            } else {
                state.blow(plan, draw(MOST_WIND) + 1);
            }
            if (plan.readers > 0) {
                int reader = draw(plan.readers);
                state.go(reader, draw(plan.beds));
            }
        }

        int draw(int by) {
            drawn = drawn * 1103515245 + 12345;
            int bits = drawn >>> 16 & 32767;
            return by > 0 ? bits % by : 0;
        }
    }
}
