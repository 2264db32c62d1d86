/** What is kept: the TAPE, FAULTS, WORKS to undo, IMAGES, counts; each sentence that names a bound, on both sides of it. */
public final class KeepTest extends Checks {
    private static final String SOME = "bed 3;bed 9;letter 0 1 2 3 4 5 6 7 8;letter 1 9 9 9;reader 0;reader 1;";

    private static void made() {
        sentence("A GARDEN without CLAUSES.");
        LetterScarecrow made = new LetterScarecrow();
        LetterScarecrow told = new LetterScarecrow();
        told.garden(0);
        for (int what = 0; what <= 11; what++) {
            due("told(" + what + ")", made.told(what), told.told(what));
        }
        due("fault()", made.fault(), -1);
        due("undo()", made.undo(), -1);
        due("restore()", made.restore(), -1);
        for (int what = 0; what <= 2; what++) {
            due("count(" + what + ")", made.count(what), 0);
        }
        due("status", made.status(0) + made.status(1), 0);
        due("work(0)", made.work(0), 0);
        due("book(0)", made.book(0), 0);
    }

    private static void asksOfNone() {
        sentence("A GARDEN without CLAUSES.");
        LetterScarecrow crow = new LetterScarecrow();
        due("ahead(99, 0)", crow.ahead(99, 0), 0);
        due("ahead(99, 1)", crow.ahead(99, 1), 0);
        due("ahead(99, 2)", crow.ahead(99, 2), 0);
        due("stuff()", crow.stuff(), 0);
        due("stuffed(0)", crow.stuffed(0), -1);
        due("all(0)", crow.all(0), 0);
        due("all(1)", crow.all(1), -1);
        due("fits(0)", crow.fits(0), 0);
        due("fits(1)", crow.fits(1), -1);
        due("look(0)", crow.look(0), -1);
        due("look(1)", crow.look(1), -1);
        due("often(0)", crow.often(0), -1);
        due("often(1)", crow.often(1), -1);
        due("hearers(0)", crow.hearers(0), 0);
        due("full(0)", crow.full(0), 0);
        due("full(1)", crow.full(1), 0);
        for (int what = 0; what <= 3; what++) {
            due("summer(1, 8, 48, " + what + ")", crow.summer(1, 8, 48, what), 0);
        }
        due("grown(0)", crow.grown(0), -1);
    }

    private static void feeding() {
        sentence("Twenty bytes come on the TAPE, of each number the highest first: how many there are");
        LetterScarecrow crow = new LetterScarecrow();
        due("feed", crow.feed(0x62656420, 0x333b6265, 0x64203133, 0x3b626564, 0x2032393b), 20);
        due("garden(20)", crow.garden(20), 0);
        due("F", crow.bed(0, 0) * 10000 + crow.bed(1, 0) * 100 + crow.bed(2, 0), 31329);
        due("feed behind it", crow.feed(0, 0, 0, 0, 0), 20);
        due("feed behind it", crow.feed(0, 0, 0, 0, 0), 40);
        due("bytes of 0", crow.garden(40) * 100 + crow.fault(), -900);
        sentence("NONE, doing nothing, if there would be more than 600");
        LetterScarecrow full = new LetterScarecrow();
        fed(full, "bed 4;" + " ".repeat(568) + "bed 5;");
        due("580 bytes", full.count(1), 580);
        due("just 600", full.feed(0x20202020, 0x20202020, 0x20202020, 0x20626564, 0x2036203b), 600);
        due("one more", full.feed(0x78787878, -1, -1, -1, -1), -1);
        due("and one more", full.feed(0, 0, 0, 0, 0), -1);
        due("bytes", full.count(1), 600);
        due("garden(600)", full.garden(600), 0);
        due("BEDS", full.told(0), 3);
        due("the last one's F", full.bed(2, 0), 6);
        due("room again", full.feed(0, 0, 0, 0, 0), 20);
        due("that is no refusal", full.status(0) + full.status(1), 0);
    }

    private static void gardenAnew() {
        sentence("are the GARDEN (no LAW, BOOK, IMAGES, nothing to undo): how many LETTERS");
        LetterScarecrow crow = crow(SOME);
        law(crow, "8");
        book(crow, "0 16;");
        work(crow, "tie 1;rain 20;wind 30;year;walk 0 1;eat 1;eat 0;eat 0;");
        crow.image();
        crow.image();
        crow.image();
        due("garden", garden(crow, SOME), 2);
        due("as at first", fingerprint(crow), fingerprint(crow(SOME)));
        due("no LAW: rain / 4 + 1", crow.would(3, 0, 0, 0, 0, 0, 0) * 100 + crow.would(4, 0, 0, 0, 0, 0, 0) * 10
            + crow.would(20, 0, 0, 0, 0, 0, 0), 126);
        due("no BOOK", crow.told(9), 0);
        due("no IMAGES", crow.count(0), 0);
        due("none to go back to", crow.restore(), -1);
        due("nothing to undo", crow.count(2), 0);
        due("undo()", crow.undo(), -1);
        due("REFUSED", crow.told(10), 0);
        due("three more IMAGES", crow.image() * 100 + crow.image() * 10 + crow.image(), 123);
        sentence("or the FAULT less 10 (all but the TAPE stays)");
        work(crow, "rain 1;eat 0;eat 0;");
        law(crow, "6");
        book(crow, "1 16;0 16;");
        long before = fingerprint(crow);
        due("a FAULT", garden(crow, "bed 1;bed 2;bed 3;letter 0 1;x"), -9);
        due("all stays", fingerprint(crow), before);
        due("the LAW", crow.would(0, 0, 0, 0, 0, 0, 0), 6);
        due("the BOOK", crow.told(9), 2);
        due("IMAGES", crow.count(0), 3);
        due("WORKS", crow.count(2), 1);
        due("REFUSED", crow.told(10), 1);
        due("the TAPE", crow.count(1), 0);
        due("undo()", crow.undo(), 0);
        due("restore()", crow.restore(), 2);
    }

    private static final String WIDE = "bed 0;bed 1;bed 2;bed 3;bed 4;bed 5;"
        + "letter 0 1 2 3 4;letter 1 5 6 7 8;letter 2 9 10 11 12;letter 3 13 14 15 0;letter 4 4 3 2 1;letter 5 8 7 6 5;";

    /** Each GARDEN is read anew, whatever the ones ahead of it had, with a FAULT or without. */
    private static void gardensInARow() {
        sentence("The first n bytes of the TAPE are the GARDEN");
        String most = WIDE + "reader 0;reader 1;reader 2;reader 3;reader 4;";
        String few = "bed 30;letter 0 9 8;reader 0;";
        LetterScarecrow crow = new LetterScarecrow();
        String[] texts = {most, few, most, few, few, "bed 1;bed 2;", most, "", few, most};
        for (String text : texts) {
            due("garden " + text, garden(crow, text), text.split("letter", -1).length - 1);
            due("BEDS of " + text, crow.told(0), text.split("bed", -1).length - 1);
            due("READERS of " + text, crow.told(2), text.split("reader", -1).length - 1);
            due("as of a new object by " + text, fingerprint(crow), fingerprint(crow(text)));
            work(crow, "again 4[rain 20;];");
            due("a FAULT behind " + text, garden(crow, most + "x"), -9);
        }
        sentence("nothing is tied, lies, was heard, grown or eaten");
        work(crow, "again 4[rain 20;];year;");
        due("three lie in each", crow.told(6), 18);
        garden(crow, most);
        for (int bed = 0; bed < 6; bed++) {
            due("nothing lies in BED " + bed, crow.bed(bed, 1), 0);
        }
        due("nothing lies", crow.told(6), 0);
    }

    /** All BEDS, to their last WORD, are as they were. */
    private static void wideOnes() {
        sentence("is undone");
        LetterScarecrow crow = crow(WIDE + "reader 0;reader 1;reader 2;reader 3;reader 4;");
        work(crow, "again 2[rain 20;];");
        long before = fingerprint(crow);
        crow.image();
        work(crow, "again 6[year;];again 5[tie 0;tie 1;tie 2;tie 3;tie 4;tie 5;];walk 0 5;walk 1 4;walk 2 3;walk 3 2;walk 4 1;");
        due("all is gone", crow.told(6), 0);
        due("undo()", crow.undo(), 1);
        due("as it was", fingerprint(crow), before);
        for (int bed = 0; bed < 6; bed++) {
            due("the last WORD of BED " + bed, crow.lies(bed, 3), crow.word(bed, 3));
            due("no other one", crow.lies(bed, 4), -1);
        }
        sentence("All is as in the latest IMAGE");
        work(crow, "eat 0;eat 1;eat 2;eat 3;eat 4;eat 5;tie 5;");
        due("restore()", crow.restore(), 0);
        due("as it was", fingerprint(crow), before);
        sentence("Asked, nothing stays changed");
        crow.ahead(99, 0);
        crow.rains(5, 0, 20);
        crow.summer(3, 8, 48, 0);
        crow.span(3, 10, 8, 48, 0, 0);
        due("as it was", fingerprint(crow), before);
        LetterScarecrow some = crow(WIDE + "reader 0;reader 1;reader 2;reader 3;reader 4;");
        work(some, "rain 1;wind 30;");
        long mixed = fingerprint(some);
        work(some, "rain 1;wind 30;year;");
        work(some, "again 4[rain 20;];wind 30;");
        some.undo();
        some.image();
        some.undo();
        due("some WORDS left, some heard", fingerprint(some), mixed);
        for (int letter = 0; letter < 6; letter++) {
            due("left of LETTER " + letter, some.letter(letter, 2), 3);
        }
        due("what the last READER heard", some.reader(4, 1), 4 + 8 + 64 + 128 + 1024 + 16384);
        some.summer(3, 16, 1, 0);
        some.rains(0, 15, 20);
        due("nothing stays changed", fingerprint(some), mixed);
        LetterScarecrow full = crow("bed 0;bed 0;bed 0;bed 0;bed 0;bed 0;letter 5 1 2 3 4 5 6 7 8;letter 5 9 10 11 12;");
        law(full, "8");
        work(full, "rain 1;");
        long lying = fingerprint(full);
        work(full, "eat 5;");
        full.undo();
        due("12 in the last BED", fingerprint(full), lying);
        due("the 12th", full.lies(5, 11), 12);
        due("a YEAR ahead", full.ahead(1, 0), 11);
        due("the WORD at the last place", full.rains(5, 12, 1), 0);
    }

    private static void otherTexts() {
        sentence("all but the TAPE stays");
        LetterScarecrow crow = crow(SOME);
        due("law", law(crow, "3"), 1);
        due("a LAW with a FAULT", law(crow, "5+"), -9);
        due("the one ahead stays", crow.would(0, 0, 0, 0, 0, 0, 0), 3);
        due("law anew", law(crow, "4"), 1);
        due("takes its place", crow.would(0, 0, 0, 0, 0, 0, 0), 4);
        due("book", book(crow, "0 16;1 16;"), 2);
        due("a BOOK with a FAULT", book(crow, "0 1;0 1;"), -8);
        due("the one ahead stays", crow.told(9) * 100 + crow.fits(0), 200);
        due("book anew", book(crow, "1 9;"), 1);
        due("takes its place", crow.told(9) * 100 + crow.fits(0) * 10 + crow.look(0), 190);
        due("none of its lines are left by an empty one", crow.book(0) * 100 + crow.told(9) * 10 + crow.fits(0), 18);
        due("a WORK with a FAULT", work(crow, "rain 3;year;wind 0;"), -8);
        due("none of its STEPS is done", crow.told(3) + crow.told(4) + crow.told(6), 0);
        due("it can't be undone", crow.count(2), 0);
    }

    private static void sixteen() {
        sentence("-20 behind the exception, ahead of the FAULT (nothing is read, there is no FAULT, the TAPE is empty then)");
        LetterScarecrow crow = crow(SOME);
        for (int i = 1; i <= 15; i++) {
            due("work", work(crow, "rain 1;"), 1);
        }
        due("the 16th", work(crow, "walk 0 0;rain 1;"), 1);
        due("WORKS", crow.count(2), 16);
        due("REFUSED", crow.told(10), 1);
        long before = fingerprint(crow);
        law(crow, "1+");
        due("a FAULT", crow.fault(), 2);
        fed(crow, "yeer;");
        misused("work(21)", () -> crow.work(21));
        misused("work(-1)", () -> crow.work(-1));
        due("the TAPE stays", crow.count(1), 20);
        due("the FAULT stays", crow.fault(), 2);
        due("a FAULT behind -20", crow.work(5), -20);
        due("there is no FAULT", crow.fault(), -1);
        due("the TAPE is empty", crow.count(1), 0);
        due("none of no STEPS", crow.work(0), -20);
        due("none that is right", work(crow, "rain 1;"), -20);
        due("all stays", fingerprint(crow), before);
        due("WORKS", crow.count(2), 16);
        due("REFUSED stays", crow.told(10), 1);
        due("other texts are read", law(crow, "5") * 10 + book(crow, "0 1;"), 11);
        due("undo()", crow.undo(), 15);
        due("one more", work(crow, "year;"), 1);
        due("WORKS", crow.count(2), 16);
        due("and no other", work(crow, "year;"), -20);
        for (int left = 15; left >= 0; left--) {
            due("undo()", crow.undo(), left);
        }
        due("there is none", crow.undo(), -1);
        due("as at first", fingerprint(crow), fingerprint(crow(SOME)));
        sentence("nothing to undo");
        for (int i = 0; i < 16; i++) {
            crow.work(0);
        }
        garden(crow, SOME);
        due("16 of the GARDEN ahead don't count", crow.work(0), 0);
    }

    private static void faults() {
        sentence("The place of the FAULT of the latest text; NONE without.");
        LetterScarecrow crow = new LetterScarecrow();
        due("of a new object", crow.fault(), -1);
        law(crow, "");
        due("at 0", crow.fault(), 0);
        misused("law(1)", () -> crow.law(1));
        misused("told(12)", () -> crow.told(12));
        due("no text was read", crow.fault(), 0);
        garden(crow, "bed 1;bed 31;");
        due("of the latest", crow.fault(), 10);
        crow.work(0);
        due("without", crow.fault(), -1);
        book(crow, " x");
        due("of a BOOK", crow.fault(), 1);
        crow.feed(0, 0, 0, 0, 0);
        crow.undo();
        crow.image();
        crow.restore();
        due("stays", crow.fault(), 1);
        garden(crow, "");
        due("without", crow.fault(), -1);
        work(crow, "year");
        due("of a WORK", crow.fault(), 4);
        law(crow, "1");
        due("without", crow.fault(), -1);
    }

    private static void undoing() {
        sentence("The latest WORK that was done (of no STEPS, or with all of them REFUSED, too) is undone");
        LetterScarecrow crow = crow(SOME);
        due("none", crow.undo(), -1);
        work(crow, "rain 4;walk 0 1;");
        long before = fingerprint(crow);
        crow.work(0);
        work(crow, "eat 1;eat 1;eat 1;");
        work(crow, "walk 0 1;");
        due("WORKS", crow.count(2), 4);
        due("with all of them REFUSED", crow.undo(), 3);
        due("what was EATEN lies again", crow.undo(), 2);
        due("as it was", fingerprint(crow), before);
        due("of no STEPS", crow.undo(), 1);
        due("as it was", fingerprint(crow), before);
        due("the first", crow.undo(), 0);
        due("as at first", fingerprint(crow), fingerprint(crow(SOME)));
        due("none is left", crow.undo(), -1);
        due("none is left still", crow.undo(), -1);
        due("as at first", fingerprint(crow), fingerprint(crow(SOME)));
        sentence("STEPS REFUSED by the latest WORK (0 ahead of any, behind garden() without a FAULT, undo(), restore())");
        due("ahead of any", crow(SOME).told(10), 0);
        work(crow, "walk 0 0;walk 1 1;");
        due("two", crow.told(10), 2);
        garden(crow, "x");
        law(crow, "1");
        book(crow, "");
        work(crow, "x");
        crow.image();
        due("two still", crow.told(10), 2);
        work(crow, "walk 0 0;");
        due("one", crow.told(10), 1);
        crow.undo();
        due("behind undo()", crow.told(10), 0);
        work(crow, "walk 0 0;");
        crow.restore();
        due("behind restore()", crow.told(10), 0);
        work(crow, "walk 0 0;year;");
        due("one", crow.told(10), 1);
        work(crow, "year;");
        due("none", crow.told(10), 0);
        work(crow, "walk 0 0;");
        garden(crow, SOME);
        due("behind garden()", crow.told(10), 0);
    }

    private static void imaging() {
        sentence("An IMAGE of all that WORK changes, and of the WORKS that can be undone: how many there are; -1: there are 3.");
        LetterScarecrow crow = crow(SOME);
        work(crow, "rain 8;tie 0;wind 9;");
        work(crow, "walk 0 1;year;eat 0;");
        long first = fingerprint(crow);
        due("image()", crow.image(), 1);
        due("nothing is changed", fingerprint(crow), first);
        crow.undo();
        long second = fingerprint(crow);
        due("image()", crow.image(), 2);
        crow.undo();
        due("image()", crow.image(), 3);
        work(crow, "year;rain 1;");
        due("a fourth", crow.image(), -1);
        due("there are 3", crow.count(0), 3);
        sentence("All is as in the latest IMAGE, which is gone: how many are left; -1: there is none.");
        due("restore()", crow.restore(), 2);
        due("as at first", fingerprint(crow), fingerprint(crow(SOME)));
        due("no WORKS", crow.count(2), 0);
        due("nothing to undo", crow.undo(), -1);
        due("room for one", crow.image(), 3);
        due("restore()", crow.restore(), 2);
        due("restore()", crow.restore(), 1);
        due("as it was", fingerprint(crow), second);
        due("WORKS", crow.count(2), 1);
        for (int i = 0; i < 15; i++) {
            crow.work(0);
        }
        due("16 WORKS", crow.work(0), -20);
        due("restore()", crow.restore(), 0);
        due("as it was", fingerprint(crow), first);
        due("WORKS", crow.count(2), 2);
        due("room for WORKS", crow.work(0), 0);
        due("restore() of none", crow.restore(), -1);
        due("nothing is changed", fingerprint(crow), first);
        due("WORKS", crow.count(2), 3);
        due("undo()", crow.undo() * 10 + crow.undo(), 21);
        due("as it was", fingerprint(crow), second);
        due("undo()", crow.undo(), 0);
        due("as at first", fingerprint(crow), fingerprint(crow(SOME)));
        sentence("of all that WORK changes");
        law(crow, "7");
        book(crow, "0 16;");
        crow.image();
        law(crow, "6");
        book(crow, "0 16;1 16;");
        fed(crow, "left");
        crow.restore();
        due("no LAW", crow.would(0, 0, 0, 0, 0, 0, 0), 6);
        due("no BOOK", crow.told(9), 2);
        due("no TAPE", crow.count(1), 20);
    }

    private static void counts() {
        sentence("How many calls were refused: 0 NoSuchElementException, 1 IllegalArgumentException; NONE for others. (No IMAGE keeps it.)");
        LetterScarecrow crow = crow(SOME);
        missing("bed(2, 0)", () -> crow.bed(2, 0));
        crow.image();
        missing("bed(2, 9)", () -> crow.bed(2, 9));
        misused("told(12)", () -> crow.told(12));
        misused("garden(1)", () -> crow.garden(1));
        misused("law(1)", () -> crow.law(1));
        misused("work(1)", () -> crow.work(1));
        misused("book(1)", () -> crow.book(1));
        crow.restore();
        due("status(0)", crow.status(0), 2);
        due("status(1)", crow.status(1), 5);
        work(crow, "rain 1;");
        crow.undo();
        due("no undo() keeps it", crow.status(0) * 10 + crow.status(1), 25);
        garden(crow, SOME);
        due("nor does garden()", crow.status(0) * 10 + crow.status(1), 25);
        // what is answered by a number is no refusal
        crow.undo();
        crow.restore();
        law(crow, "x");
        due("what is answered does not count", crow.status(0) * 10 + crow.status(1), 25);
        for (int what : new int[] {Integer.MIN_VALUE, -1, 2, 3, Integer.MAX_VALUE}) {
            due("status(" + what + ")", crow.status(what), -1);
        }
        due("status of others is no refusal", crow.status(0) * 10 + crow.status(1), 25);
        sentence("0 IMAGES, 1 bytes of the TAPE, 2 WORKS that can be undone; NONE for others.");
        due("count", crow.count(0) + crow.count(1) + crow.count(2), 0);
        crow.image();
        crow.work(0);
        crow.image();
        crow.work(0);
        crow.image();
        crow.work(0);
        crow.work(0);
        crow.feed(0, 0, 0, 0, 0);
        due("count(0)", crow.count(0), 3);
        due("count(1)", crow.count(1), 20);
        due("count(2)", crow.count(2), 4);
        for (int what : new int[] {Integer.MIN_VALUE, -1, 3, Integer.MAX_VALUE}) {
            due("count(" + what + ")", crow.count(what), -1);
        }
        due("count of others is no refusal", crow.status(1), 5);
    }

    public static void main(String[] args) {
        made();
        asksOfNone();
        feeding();
        gardenAnew();
        gardensInARow();
        wideOnes();
        otherTexts();
        sixteen();
        faults();
        undoing();
        imaging();
        counts();
        finish();
    }
}
