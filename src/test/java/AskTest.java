/** What is asked (promises 9 to 38): each sentence that names a bound, on both sides of it, worked out by hand. */
public final class AskTest extends Checks {
    private static final String EIGHT = "letter 0 1 2 3 4 5 6 7 8;";

    private static void tellings() {
        sentence("5 WORDS that are left of all LETTERS, 6 WORDS that lie in all BEDS, 7 WORDS that are LOST, 8 WORDS EATEN");
        LetterScarecrow crow = crow("bed 0;bed 0;" + EIGHT + EIGHT + "letter 1 3 4;reader 1;");
        law(crow, "8");
        due("left at first", crow.told(5), 18);
        work(crow, "tie 1;rain 1;");
        due("left", crow.told(5), 8);
        due("lies", crow.told(6), 10);
        work(crow, "tie 1;rain 1;");
        due("none is left", crow.told(5), 0);
        due("lies", crow.told(6), 14);
        due("LOST", crow.told(7), 4);
        work(crow, "year;eat 0;eat 1;");
        due("none lies", crow.told(6), 0);
        due("EATEN", crow.told(8), 12);
        due("GROWN", crow.told(11), 2);

        sentence("0 its BED, 1 how many WORDS it had, 2 how many are left, 3 the NEXT WORD (NONE: none is left), 4 1 it is tied");
        LetterScarecrow letters = crow("bed 0;bed 0;letter 1 0 15 7;letter 0 5;");
        letterIs(letters, 0, 1, 3, 3, 0, 0);
        letterIs(letters, 1, 0, 1, 1, 5, 0);
        work(letters, "tie 1;rain 1;");
        letterIs(letters, 0, 1, 3, 2, 15, 0);
        letterIs(letters, 1, 0, 1, 1, 5, 1);
        work(letters, "tie 0;tie 1;rain 1;tie 0;rain 1;");
        letterIs(letters, 0, 1, 3, 1, 7, 0);
        letterIs(letters, 1, 0, 1, 0, -1, 0);
        work(letters, "rain 1;tie 0;");
        letterIs(letters, 0, 1, 3, 0, -1, 1);
        sentence("WORD k of a LETTER (0 to how many it had less 1), run out or not");
        due("the first", letters.word(0, 0), 0);
        due("the second", letters.word(0, 1), 15);
        due("the last", letters.word(0, 2), 7);
        misused("one beyond", () -> letters.word(0, 3));
        due("the only one", letters.word(1, 0), 5);
        misused("one beyond it", () -> letters.word(1, 1));
        LetterScarecrow long8 = crow("bed 0;" + EIGHT);
        due("the 8th", long8.word(0, 7), 8);
        misused("a 9th", () -> long8.word(0, 8));
    }

    private static void letterIs(LetterScarecrow crow, int letter, int... want) {
        for (int what = 0; what <= 4; what++) {
            due("letter(" + letter + ", " + what + ")", crow.letter(letter, what), want[what]);
        }
    }

    private static void bedIs(LetterScarecrow crow, int bed, int... want) {
        for (int what = 0; what <= 4; what++) {
            due("bed(" + bed + ", " + what + ")", crow.bed(bed, what), want[what]);
        }
    }

    private static void beds() {
        sentence("Of a BED: 0 F, 1 how many WORDS lie there, 2 which WORDS do (bits), 3 the first one (NONE), 4 READERS there (bits)");
        LetterScarecrow crow = crow("bed 0;bed 30;letter 1 0 15 0;letter 1 15;reader 1;reader 0;reader 1;reader 1;reader 1;");
        bedIs(crow, 0, 0, 0, 0, -1, 2);
        bedIs(crow, 1, 30, 0, 0, -1, 1 + 4 + 8 + 16);
        work(crow, "rain 1;walk 1 1;");
        bedIs(crow, 0, 0, 0, 0, -1, 0);
        bedIs(crow, 1, 30, 2, 1 + 32768, 0, 31);
        work(crow, "year;");
        bedIs(crow, 1, 30, 1, 32768, 15, 31);
        work(crow, "year;");
        bedIs(crow, 1, 30, 0, 0, -1, 31);
        sentence("The k-th WORD (from 0 on) that lies in a BED; NONE: there are not so many");
        due("none", crow.lies(1, 0), -1);
        work(crow, "rain 1;");
        due("one", crow.lies(1, 0), 15);
        due("behind it", crow.lies(1, 1), -1);
        LetterScarecrow full = crow("bed 0;bed 0;" + EIGHT + EIGHT + "letter 1 9;");
        law(full, "8");
        work(full, "rain 1;");
        due("the 12th", full.lies(0, 11), 4);
        due("no 13th", full.lies(0, 12), -1);
        due("none far beyond", full.lies(0, Integer.MAX_VALUE), -1);
        due("the other BED's first", full.lies(1, 0), 9);
        due("and no other", full.lies(1, 1), -1);
        sentence("BEDS (bits) in which 12 WORDS lie (what 0), none (1)");
        due("full", full.full(0), 1);
        due("empty", full.full(1), 0);
        work(full, "year;");
        due("11 are not 12", full.full(0), 0);
        due("empty", full.full(1), 2);
        LetterScarecrow six = crow("bed 0;".repeat(6) + "letter 5 1;");
        due("all are empty", six.full(1), 63);
        work(six, "rain 1;");
        due("one is not", six.full(1), 31);
        due("none of BED 6", six.full(0), 0);
    }

    private static void readers() {
        sentence("Of a READER: 0 its BED, 1 WORDS it heard (bits)");
        LetterScarecrow crow = crow("bed 0;bed 5;letter 0 0 3;letter 1 15 4;reader 1;reader 0;");
        due("its BED", crow.reader(0, 0) * 10 + crow.reader(1, 0), 10);
        due("heard none", crow.reader(0, 1) + crow.reader(1, 1), 0);
        work(crow, "wind 5;walk 0 0;");
        due("its BED", crow.reader(0, 0), 0);
        due("heard", crow.reader(0, 1), 1 + 32768);
        sentence("READERS (bits) who heard a WORD (0 to 15)");
        due("WORD 0", crow.hearers(0), 3);
        due("WORD 15", crow.hearers(15), 3);
        due("nobody", crow.hearers(3), 0);
        sentence("WORDS (bits) that a wind of n (1 to 30) would tell a READER now that it did not hear yet");
        due("none is new", crow.news(0, 30), 0);
        LetterScarecrow far = crow("bed 0;bed 1;bed 2;bed 30;letter 0 0 3;letter 1 15 4;letter 0 0;reader 0;reader 1;reader 2;reader 3;");
        due("FAR 0", far.news(0, 1), 1 + 32768);
        due("FAR 1", far.news(1, 1), 1 + 32768);
        due("FAR 2", far.news(2, 1), 0);
        due("by 2", far.news(2, 2), 1 + 32768);
        due("FAR 30, by 29", far.news(3, 29), 0);
        due("by 30", far.news(3, 30), 1 + 32768);
        due("nothing stays changed", far.reader(0, 1), 0);
        work(far, "wind 1;tie 1;rain 1;");
        due("one of two is new, tied or not", far.news(0, 30), 8);
        due("both are", far.news(3, 30), 8 + 32768);
        work(far, "tie 1;rain 20;rain 20;");
        due("none is left", far.news(3, 30), 0);
        sentence("WORDS (bits) that lie in the BED where a READER is and that he did not hear yet");
        due("heard one of two", far.unread(0), 8);
        due("heard one of two there", far.unread(1), 16);
        due("nothing lies there", far.unread(2), 0);
        work(far, "walk 2 0;");
        due("heard by walking", far.unread(2), 0);
        sentence("How many WORDS both of two READERS heard (of one: all he heard)");
        due("both", far.shared(0, 1), 2);
        due("one of them", far.shared(0, 2) * 10 + far.shared(2, 0), 11);
        due("of one", far.shared(0, 0), 2);
        due("of one, none", far.shared(3, 3), 0);
        due("with one who heard none", far.shared(0, 3), 0);
        LetterScarecrow all = crow("bed 0;bed 0;letter 0 0 1 2 3 4 5 6 7;letter 0 8 9 10 11;letter 1 12 13 14 15;reader 1;");
        law(all, "8");
        work(all, "rain 1;walk 0 0;walk 0 1;");
        due("all 16", all.shared(0, 0), 16);
        due("all bits", all.reader(0, 1), 65535);
    }

    private static void grown() {
        sentence("The k-th WORD (from 0 on) of those that are GROWN, the oldest first; NONE: there are not so many");
        LetterScarecrow crow = crow("bed 0;letter 0 6 0;");
        due("none", crow.grown(0), -1);
        work(crow, "rain 4;year;");
        due("one", crow.grown(0), 6);
        due("no other", crow.grown(1), -1);
        work(crow, "year;year;");
        due("the oldest first", crow.grown(0) * 100 + crow.grown(1), 600);
        due("no third", crow.grown(2), -1);
        due("none far beyond", crow.grown(Integer.MAX_VALUE), -1);
    }

    private static void runs() {
        sentence("RUN of a LETTER, were there rain of n (1 to 20) now (he being WET by it; BEDS as they are now; tied or not), no more than are left");
        LetterScarecrow crow = crow("bed 0;bed 6;letter 0 1 2 3;" + EIGHT);
        due("rain of 3", crow.runs(1, 3), 1);
        due("rain of 4", crow.runs(1, 4), 2);
        due("rain of 20", crow.runs(1, 20), 6);
        due("just what is left", crow.runs(0, 8), 3);
        due("no more than are left", crow.runs(0, 12), 3);
        law(crow, "lies");
        due("BEDS as they are now", crow.runs(1, 20), 0);
        law(crow, "wet-90");
        work(crow, "tie 0;tie 1;again 4[rain 20;];rain 17;");
        due("WET by 97 and 1", crow.runs(1, 1), 8);
        law(crow, "wet-95");
        due("WET by 98", crow.runs(1, 1), 3);
        due("WET by 99", crow.runs(1, 2), 4);
        due("99 at most", crow.runs(1, 20), 4);
        due("nothing stays changed", crow.told(4), 97);
        law(crow, "8");
        work(crow, "tie 0;rain 20;");
        due("none is left", crow.runs(0, 20), 0);
        LetterScarecrow full = crow("bed 0;" + EIGHT + EIGHT);
        law(full, "8");
        work(full, "tie 1;rain 1;tie 1;");
        due("those that would be LOST run out, too", full.runs(1, 1), 8);
        sentence("RUN by the LAW for such rain (0 to 20), wet (0 to 99), left (0 to 8), far (0 to 30), lies (0 to 12), year (0 to 400), letter (0 to 5)");
        LetterScarecrow would = crow("");
        due("rain 0", would.would(0, 99, 8, 30, 12, 400, 5), 1);
        due("rain 3", would.would(3, 0, 0, 0, 0, 0, 0), 1);
        due("rain 4", would.would(4, 0, 0, 0, 0, 0, 0), 2);
        due("rain 20", would.would(20, 0, 0, 0, 0, 0, 0), 6);
        String[] values = {"rain", "wet", "left", "far", "lies", "year", "letter"};
        int[] most = {20, 99, 8, 30, 12, 400, 5};
        for (int i = 0; i < 7; i++) {
            law(would, values[i] + "-" + (most[i] - 1));
            due("the most of " + values[i], would.would(20, 99, 8, 30, 12, 400, 5), 1);
            law(would, "8-" + values[i]);
            due("the least of " + values[i], would.would(0, 0, 0, 0, 0, 0, 0), 8);
        }
    }

    private static void ahead() {
        sentence("In n YEARS (0 to 99), nothing else being done: 0 WORDS that lie in all BEDS, 1 WORDS that are GROWN by then, 2 how WET he is");
        LetterScarecrow crow = crow("bed 0;bed 0;letter 0 1 2 3;letter 1 4;");
        work(crow, "rain 20;");
        int[][] want = {{4, 0, 20}, {2, 2, 10}, {1, 3, 5}, {0, 4, 2}, {0, 4, 1}, {0, 4, 0}};
        for (int n = 0; n < 6; n++) {
            for (int what = 0; what <= 2; what++) {
                due("ahead(" + n + ", " + what + ")", crow.ahead(n, what), want[n][what]);
            }
        }
        due("in 99", crow.ahead(99, 0) * 100 + crow.ahead(99, 1) * 10 + crow.ahead(99, 2), 40);
        due("nothing stays changed", crow.told(6) * 1000 + crow.told(11) * 100 + crow.told(4), 4020);
        due("no YEAR went by", crow.told(3), 0);
    }

    private static void rains() {
        sentence("how many rains of n each (0 to 40), one behind the other, nothing else being done, until that WORD lies in that BED; NONE");
        LetterScarecrow crow = crow("bed 0;bed 0;letter 0 1 2;letter 1 15 0;");
        due("one", crow.rains(0, 1, 1), 1);
        due("two", crow.rains(0, 2, 1), 2);
        due("by more rain", crow.rains(0, 2, 20), 1);
        due("WORD 0", crow.rains(1, 0, 3), 2);
        due("WORD 15", crow.rains(1, 15, 3), 1);
        due("in the other BED", crow.rains(1, 1, 20), -1);
        work(crow, "rain 1;tie 0;");
        due("it lies there", crow.rains(0, 1, 20), 0);
        due("of a tied LETTER", crow.rains(0, 2, 20), -1);
        LetterScarecrow late = crow("bed 0;letter 0 1;");
        law(late, "wet / 40");
        due("at the 40th", late.rains(0, 1, 1), 40);
        law(late, "wet / 41");
        due("no 41st", late.rains(0, 1, 1), -1);
        law(late, "wet / 39");
        due("at the 39th", late.rains(0, 1, 1), 39);
        due("nothing stays changed", late.told(4) + late.told(6), 0);
        due("WET by 99 at most", late.rains(0, 1, 20), 2);
        law(late, "wet / 100");
        due("never by 99", late.rains(0, 1, 20), -1);
        LetterScarecrow full = crow("bed 0;" + EIGHT + "letter 0 1 2 3 4 9 10 11 12;");
        law(full, "8");
        due("the 12th lies", full.rains(0, 4, 1), 1);
        due("the 13th is LOST", full.rains(0, 9, 1), -1);
        work(full, "eat 0;rain 1;year;");
        due("gone by a year, and never again", full.rains(0, 1, 20), 0);
    }

    private static void stuffIs(String garden, int seams, int... order) {
        LetterScarecrow crow = crow(garden);
        due("SEAMS of " + garden, crow.stuff(), seams);
        for (int k = 0; k < order.length; k++) {
            due("place " + k + " of " + garden, crow.stuffed(k), order[k]);
        }
        due("no more places of " + garden, crow.stuffed(order.length), -1);
        due("none far beyond", crow.stuffed(Integer.MAX_VALUE), -1);
    }

    private static void stuff() {
        sentence("the order of all LETTERS that have any WORD left by which SEAMS together are most; of alike orders the first (place by place)");
        stuffIs("", 0);
        stuffIs("bed 0;", 0);
        stuffIs("bed 0;letter 0 1;", 0, 0);
        stuffIs("bed 0;letter 0 1 1;", 0, 0);
        stuffIs("bed 0;letter 0 1;letter 0 2;", 0, 0, 1);
        stuffIs("bed 0;letter 0 1 2;letter 0 3 1;", 1, 1, 0);
        stuffIs("bed 0;letter 0 1 2;letter 0 2 1;", 1, 0, 1);
        stuffIs("bed 0;letter 0 1;letter 0 1;letter 0 1;letter 0 1;letter 0 1;letter 0 1;", 5, 0, 1, 2, 3, 4, 5);
        stuffIs("bed 0;letter 0 1 2;letter 0 3 4;letter 0 2 3;letter 0 4 1;letter 0 9;letter 0 9;", 4, 0, 2, 1, 3, 4, 5);
        // the first one that is best at hand is no good: 0 ahead of 2 makes one SEAM, but 1 0 2 3 makes three
        stuffIs("bed 0;letter 0 1 2;letter 0 5 1;letter 0 2 7;letter 0 7 5;", 3, 0, 2, 3, 1);
        stuffIs("bed 0;letter 0 1 2;letter 0 3 1;letter 0 4 3;letter 0 5 4;letter 0 6 5;letter 0 7 6;", 5, 5, 4, 3, 2, 1, 0);
        // behind 0 both others have no SEAM to come: the one that makes one with 0 goes ahead
        stuffIs("bed 0;letter 0 1 2;letter 0 5 9;letter 0 2 7;", 1, 0, 2, 1);
        // both that could stand behind 0 make one SEAM with it: the first of them does
        stuffIs("bed 0;letter 0 1 2;letter 0 2 9;letter 0 2 8;", 1, 0, 1, 2);
        stuffIs("bed 0;letter 0 0 3;letter 0 0;letter 0 3 0;", 2, 0, 2, 1);
        LetterScarecrow unasked = crow("bed 0;letter 0 1 2;letter 0 3 1;");
        due("stuffed(0) ahead of any stuff()", unasked.stuffed(0), 1);
        work(unasked, "tie 0;rain 1;");
        // left: 1 2, 1
        due("stuffed(0) of what is left by now", unasked.stuffed(0) * 10 + unasked.stuffed(1), 10);
        work(unasked, "rain 1;");
        due("stuffed(1) of one that is left", unasked.stuffed(0) * 10 + unasked.stuffed(1), -1);
        LetterScarecrow crow = crow("bed 0;letter 0 1 2;letter 0 3 1;letter 0 2;");
        due("SEAMS", crow.stuff(), 2);
        work(crow, "tie 0;rain 1;");
        // left: 1 2 of the tied one, 1, nothing
        due("of what is left", crow.stuff(), 1);
        due("order", crow.stuffed(0) * 10 + crow.stuffed(1), 10);
        due("a LETTER without WORDS has no place", crow.stuffed(2), -1);
        LetterScarecrow zero = crow("bed 0;letter 0 0 1;letter 0 1 0 4;");
        work(zero, "tie 0;rain 1;");
        due("WORD 0 is the next of one, and was the first of the other", zero.stuff(), 0);
        due("both have places", zero.stuffed(0) * 10 + zero.stuffed(1), 1);
        work(crow, "tie 0;rain 20;");
        due("none is left", crow.stuff() * 10 + crow.stuffed(0), -1);
    }

    private static void bedSets() {
        sentence("of all sets of BEDS in which each of these WORDS lies in one or more that of fewest; of as few the least bits; NONE");
        LetterScarecrow crow = crow("bed 0;bed 0;bed 0;bed 0;letter 3 0 15;letter 0 0;letter 1 15 4;letter 2 4 15;reader 0;reader 3;");
        due("none lies anywhere", crow.all(1), -1);
        due("none are told", crow.all(0), 0);
        due("tour of nothing", crow.tour(0), 0);
        work(crow, "rain 4;");
        due("none are told", crow.all(0), 0);
        due("WORD 0: the least bits", crow.all(1), 1);
        due("WORD 15: the least bits", crow.all(32768), 2);
        due("0 and 15: one is fewer than two", crow.all(1 + 32768), 8);
        due("4 and 15: of two the least bits", crow.all(16 + 32768), 2);
        due("0, 4 and 15: of as few the least bits", crow.all(1 + 16 + 32768), 1 + 2);
        due("one that lies nowhere", crow.all(1 + 2), -1);
        due("all 16", crow.all(65535), -1);
        sentence("of all sets of BEDS (that where he is may be one: he goes away from it, and comes back)");
        due("tour", crow.tour(0), 1 + 2);
        work(crow, "walk 0 1;");
        due("those he heard being heard", crow.tour(0), 1);
        work(crow, "walk 0 0;");
        due("0: he heard all", crow.tour(0), 0);
        due("the other one", crow.tour(1), 1 + 2);
        LetterScarecrow one = crow("bed 0;letter 0 1;reader 0;");
        work(one, "rain 1;");
        due("that where he is", one.tour(0), 1);
        work(one, "year;");
        due("nothing lies", one.tour(0), 0);
        LetterScarecrow last = crow("bed 0;".repeat(6) + "letter 5 7;reader 4;");
        work(last, "rain 1;");
        due("in the last of six, of one LETTER", last.all(128), 32);
        due("tour to the last of six", last.tour(0), 32);
        due("often in the last of six", last.often(0) * 100 + last.often(1), 701);
        due("seed of the last of six", last.seed(5, 63, 1) * 10 + last.seed(5, 63, 0), 10);
        LetterScarecrow two = crow("bed 0;".repeat(6) + "letter 5 7;letter 4 7 6;reader 4;");
        work(two, "rain 4;");
        due("in the last two: of as few the least bits", two.all(128), 16);
        due("seed of both: 1 each by 2", two.seed(5, 63, 2) * 10 + two.seed(4, 63, 2), 11);
        due("seed of both: none by 1", two.seed(5, 63, 1) + two.seed(4, 63, 1), 0);
        due("often in both", two.often(0) * 100 + two.often(1), 702);
        LetterScarecrow six = crow("bed 0;".repeat(6) + "letter 0 0;letter 1 1;letter 2 2;letter 3 3;letter 4 4;letter 5 5;reader 2;");
        work(six, "rain 1;");
        due("all six", six.tour(0), 63);
        due("all six of ALL", six.all(63), 63);
        due("the last one", six.all(32), 32);
    }

    private static void fitsAre(LetterScarecrow crow, String book, int many, int first) {
        book(crow, book);
        due("fits(0) by " + book, crow.fits(0), many);
        due("fits(1) by " + book, crow.fits(1), first);
    }

    private static void fits() {
        sentence("pairs of a LETTER and n (1 to 9) by which, did just n WORDS of that LETTER, or all that are left, run out to its BED now");
        LetterScarecrow crow = crow("bed 0;bed 0;" + EIGHT + "letter 1 9;");
        fitsAre(crow, "", 18, 1);
        fitsAre(crow, "0 1;", 1, 1);
        fitsAre(crow, "0 7;", 1, 7);
        // all 8 run out by 8 and by 9
        fitsAre(crow, "0 8;", 2, 8);
        fitsAre(crow, "0 0;", 0, -1);
        fitsAre(crow, "0 16;", 9, 11);
        fitsAre(crow, "1 16;", 9, 1);
        fitsAre(crow, "1 9;", 9, 11);
        fitsAre(crow, "0 16;1 16;", 0, -1);
        fitsAre(crow, "0 8;1 9;", 0, -1);
        fitsAre(crow, "1 9;0 16;", 9, 11);
        sentence("(tied or not; as by rain: those beyond 12 are LOST)");
        work(crow, "tie 0;tie 1;");
        fitsAre(crow, "0 3;1 16;", 1, 3);
        LetterScarecrow full = crow("bed 0;" + EIGHT + "letter 0 9 10 11;letter 0 12 13 14;");
        law(full, "8 - letter * 7");
        work(full, "rain 1;rain 1;rain 1;tie 0;");
        due("11 lie", full.bed(0, 1), 11);
        // of LETTER 0 none is left; of LETTER 1, too; the 12th is 12, what comes behind is LOST
        fitsAre(full, "0 12;", 9, 21);
        fitsAre(full, "0 13;", 0, -1);
        fitsAre(full, "0 11;", 18, 1);
        LetterScarecrow lines = crow("bed 0;".repeat(6) + "letter 5 1 2;");
        fitsAre(lines, "0 16;1 16;2 16;3 16;4 16;5 2;", 8, 2);
        lookIs(lines, "0 16;1 16;2 16;3 16;4 16;", 5, 8);
        lookIs(lines, "5 2;4 16;3 16;2 16;1 16;0 16;", -1, -1);
        fitsAre(lines, "5 1;", 1, 1);
        fitsAre(lines, "", 9, 1);
        fitsAre(lines, "4 16;", 9, 1);
        LetterScarecrow over = crow("bed 0;" + EIGHT + EIGHT + "letter 0 9;");
        law(over, "8 - letter * 4");
        work(over, "rain 1;");
        due("12 lie", over.bed(0, 1), 12);
        due("none is LOST", over.told(7), 0);
        fitsAre(over, "0 4;", 27, 1);
        fitsAre(over, "0 9;", 0, -1);
        LetterScarecrow one = crow("bed 0;bed 0;letter 0 7;letter 1 8 9;");
        work(one, "rain 1;");
        // one WORD lies in each; of LETTER 0 none is left
        fitsAre(one, "0 7;", 18, 1);
        fitsAre(one, "0 16;", 0, -1);
        fitsAre(one, "1 8;", 9, 1);
        fitsAre(one, "1 9;", 9, 11);
        fitsAre(one, "0 7;1 9;", 9, 11);
        LetterScarecrow bare = crow("bed 0;");
        fitsAre(bare, "0 16;", 0, -1);
        fitsAre(bare, "", 0, -1);
        LetterScarecrow six = crow("bed 0;" + "letter 0 1;".repeat(6));
        fitsAre(six, "0 1;", 54, 1);
        fitsAre(six, "0 16;", 0, -1);
    }

    private static void lookIs(LetterScarecrow crow, String book, int bed, int left) {
        book(crow, book);
        due("look(0) by " + book, crow.look(0), bed);
        due("look(1) by " + book, crow.look(1), left);
    }

    private static void look() {
        sentence("the BED in no line by which, whatever WORD lies last there then, or none, fewest such pairs are left at the worst, of these the first");
        LetterScarecrow crow = crow("bed 0;bed 0;bed 0;letter 1 1 2 3 4 5 6 7 8;letter 2 1 2 3 4 1 2 3 4;");
        // BED 0: none by 18. BED 1: 1 to 7 by 1 each, 8 by 2, none by 9. BED 2: 1 to 3 by 2 each, 4 by 3, none by 9
        lookIs(crow, "", 1, 9);
        lookIs(crow, "1 16;", 2, 3);
        lookIs(crow, "1 8;", 0, 2);
        lookIs(crow, "1 16;2 16;", 0, 0);
        lookIs(crow, "2 16;", 1, 2);
        lookIs(crow, "2 4;", 0, 3);
        lookIs(crow, "0 16;2 4;", 1, 3);
        lookIs(crow, "0 9;", 1, 0);
        sentence("NONE both: all are in lines, or there are none");
        lookIs(crow, "0 16;1 16;2 16;", -1, -1);
        lookIs(crow("bed 0;"), "0 16;", -1, -1);
        lookIs(crow(""), "", -1, -1);
        lookIs(crow("bed 0;bed 0;"), "0 16;", 1, 0);
        lookIs(crow("bed 0;bed 0;letter 1 0;"), "0 16;", 1, 9);
        sentence("whatever WORD lies last there then, or none");
        LetterScarecrow one = crow("bed 0;bed 0;letter 0 7;letter 1 8 9;");
        work(one, "rain 1;");
        // BED 0: 7 by 18. BED 1: 8 by the nine of LETTER 0, 9 by those of LETTER 1
        lookIs(one, "", 1, 9);
        lookIs(one, "1 8;", 0, 9);
        lookIs(one, "1 7;", 0, 0);
    }

    private static void podsAre(int n, int k, int q, long above, long below) {
        LetterScarecrow crow = crow("");
        due("pods(" + n + ", " + k + ", " + q + ", 0)", crow.pods(n, k, q, 0), above);
        due("pods(" + n + ", " + k + ", " + q + ", 1)", crow.pods(n, k, q, 1), below);
    }

    private static void pods() {
        sentence("of n pods each has a word by q of 16, each by itself: how likely k or more have one; in least terms");
        podsAre(0, 0, 0, 1, 1);
        podsAre(0, 0, 16, 1, 1);
        podsAre(12, 0, 0, 1, 1);
        podsAre(12, 12, 16, 1, 1);
        podsAre(1, 1, 0, 0, 1);
        podsAre(12, 1, 0, 0, 1);
        podsAre(1, 1, 1, 1, 16);
        podsAre(1, 1, 15, 15, 16);
        podsAre(1, 1, 8, 1, 2);
        podsAre(1, 1, 12, 3, 4);
        podsAre(2, 1, 8, 3, 4);
        podsAre(2, 2, 8, 1, 4);
        podsAre(2, 1, 4, 7, 16);
        podsAre(3, 2, 8, 1, 2);
        podsAre(12, 12, 1, 1, 1L << 48);
        podsAre(12, 12, 15, 129746337890625L, 1L << 48);
        podsAre(12, 1, 1, (1L << 48) - 129746337890625L, 1L << 48);
        podsAre(12, 6, 8, 1255, 2048);
        podsAre(12, 11, 8, 13, 4096);
        sentence("k above n: 0 by 1");
        podsAre(0, 1, 16, 0, 1);
        podsAre(11, 12, 16, 0, 1);
        podsAre(12, 13, 16, 0, 1);
        podsAre(0, 13, 8, 0, 1);
        podsAre(12, 12, 8, 1, 4096);
    }

    private static void sheIs(int v, int w, int many, int first, int together) {
        LetterScarecrow crow = crow("");
        due("she(" + v + ", " + w + ", 0)", crow.she(v, w, 0), many);
        due("she(" + v + ", " + w + ", 1)", crow.she(v, w, 1), first);
        due("she(" + v + ", " + w + ", 2)", crow.she(v, w, 2), together);
    }

    private static void she() {
        sentence("RESTS: neither would have more by the other thing");
        // both speak: rests if v and w are 0; one speaks: if v is w or less; both keep still: if v is w or more
        sheIs(0, 0, 4, 0, 0);
        sheIs(0, 1, 2, 1, 0);
        sheIs(1, 0, 1, 11, 2);
        sheIs(1, 1, 3, 1, 1);
        sheIs(1, 2, 2, 1, 1);
        sheIs(2, 1, 1, 11, 2);
        sheIs(99, 98, 1, 11, 2);
        sheIs(98, 99, 2, 1, 98);
        sheIs(99, 99, 3, 1, 99);
        sheIs(99, 0, 1, 11, 198);
        sheIs(0, 99, 2, 1, 0);
    }

    private static void seedIs(LetterScarecrow crow, int beds, int n, int... each) {
        for (int bed = 0; bed < each.length; bed++) {
            due("seed(" + bed + ", " + beds + ", " + n + ")", crow.seed(bed, beds, n), each[bed]);
        }
    }

    private static void seeds() {
        sentence("no more than that each, no more than a bound, the greatest by which no more than n are given (all, if they are no more)");
        LetterScarecrow crow = crow("bed 0;bed 0;bed 0;bed 0;" + EIGHT + EIGHT + "letter 1 1;letter 2 1 2 3;");
        law(crow, "8");
        work(crow, "rain 1;");
        // 12, 1, 3 and 0 lie there
        seedIs(crow, 15, 0, 0, 0, 0, 0);
        seedIs(crow, 15, 2, 0, 0, 0, 0);
        seedIs(crow, 15, 3, 1, 1, 1, 0);
        seedIs(crow, 15, 4, 1, 1, 1, 0);
        seedIs(crow, 15, 5, 2, 1, 2, 0);
        seedIs(crow, 15, 6, 2, 1, 2, 0);
        seedIs(crow, 15, 7, 3, 1, 3, 0);
        seedIs(crow, 15, 8, 4, 1, 3, 0);
        seedIs(crow, 15, 15, 11, 1, 3, 0);
        seedIs(crow, 15, 16, 12, 1, 3, 0);
        seedIs(crow, 15, 17, 12, 1, 3, 0);
        seedIs(crow, 15, 99, 12, 1, 3, 0);
        sentence("(0, if it is none of them). IllegalArgumentException: bits of no BEDS");
        seedIs(crow, 0, 99, 0, 0, 0, 0);
        seedIs(crow, 1, 11, 11, 0, 0, 0);
        seedIs(crow, 1, 12, 12, 0, 0, 0);
        seedIs(crow, 2, 0, 0, 0, 0, 0);
        seedIs(crow, 2, 1, 0, 1, 0, 0);
        seedIs(crow, 8, 99, 0, 0, 0, 0);
        seedIs(crow, 6, 4, 0, 1, 3, 0);
        misused("bits of BED 4", () -> crow.seed(0, 16, 1));
        misused("bits of BED 4, too", () -> crow.seed(0, 31, 1));
        misused("bit 31", () -> crow.seed(0, Integer.MIN_VALUE | 1, 1));
        due("nothing stays changed", crow.told(6), 16);
    }

    private static void often() {
        sentence("The WORD that lies most often in all BEDS together (what 0), of alike ones the least, how often (1); NONE both: nothing lies anywhere");
        LetterScarecrow crow = crow("bed 0;bed 0;letter 0 15 0;letter 1 15;letter 1 0 9;");
        due("nothing", crow.often(0) * 10 + crow.often(1), -11);
        work(crow, "rain 1;");
        due("WORD 15 in both BEDS", crow.often(0) * 100 + crow.often(1), 1502);
        work(crow, "rain 1;");
        due("of alike ones the least", crow.often(0) * 100 + crow.often(1), 2);
        work(crow, "eat 1;eat 0;");
        due("nothing lies any more", crow.often(0) * 10 + crow.often(1), -11);
        LetterScarecrow full = crow("bed 0;letter 0 4 4 4 4 4 4 4 4;letter 0 4 4 4 4 4 4 4 4;");
        law(full, "8");
        work(full, "rain 1;");
        due("twelve times", full.often(0) * 100 + full.often(1), 412);
        LetterScarecrow one = crow("bed 0;letter 0 15;");
        work(one, "rain 1;");
        due("once", one.often(0) * 100 + one.often(1), 1501);
    }

    private static void draining() {
        sentence("LETTERS (bits) that drain to a BED and have any WORD left");
        LetterScarecrow crow = crow("bed 0;bed 0;letter 0 1;letter 0 1 2;letter 1 1;letter 1 4;letter 0 5;letter 0 1 2 3;");
        due("BED 0", crow.drains(0), 1 + 2 + 16 + 32);
        due("BED 1", crow.drains(1), 4 + 8);
        work(crow, "tie 4;rain 1;");
        due("one of two is left; tied", crow.drains(0), 2 + 16 + 32);
        due("none is left", crow.drains(1), 0);
        sentence("How many WORDS are left of all LETTERS that drain to a BED and are tied (what 0), not tied (1)");
        due("tied", crow.coming(0, 0), 1);
        due("not tied", crow.coming(0, 1), 3);
        due("none to the other BED", crow.coming(1, 0) + crow.coming(1, 1), 0);
        work(crow, "tie 1;tie 2;");
        due("tied", crow.coming(0, 0), 2);
        due("not tied", crow.coming(0, 1), 2);
        due("a tied one without WORDS", crow.coming(1, 0), 0);
        work(crow, "tie 1;tie 4;");
        due("tied no more", crow.coming(0, 0) * 10 + crow.coming(0, 1), 4);
        LetterScarecrow zero = crow("bed 0;letter 0 0 1;letter 0 0;");
        due("whose NEXT WORD is 0", zero.drains(0), 3);
        work(zero, "rain 1;");
        due("of two one is left", zero.drains(0), 1);
        due("of a BED to which none drains", crow("bed 0;").drains(0) + crow("bed 0;").coming(0, 1), 0);
    }

    public static void main(String[] args) {
        tellings();
        beds();
        readers();
        grown();
        runs();
        ahead();
        rains();
        stuff();
        bedSets();
        fits();
        look();
        pods();
        she();
        seeds();
        often();
        draining();
        finish();
    }
}
