/** WORK as it is done: each sentence of the document's second part that names a bound, on both sides of it. */
public final class StepTest extends Checks {
    private static final String EIGHT = "letter 0 1 2 3 4 5 6 7 8;";

    /** Does the WORK, which answers how many STEPS were done, and tells how many were REFUSED. */
    private static void does(LetterScarecrow crow, String text, int done, int refused) {
        due("\"" + text + "\"", work(crow, text), done);
        due("REFUSED by \"" + text + "\"", crow.told(10), refused);
    }

    /** The STEP is REFUSED, and nothing is changed by it. */
    private static void refuses(LetterScarecrow crow, String step) {
        long before = fingerprint(crow);
        does(crow, step, 0, 1);
        due("nothing is changed by \"" + step + "\"", fingerprint(crow), before);
    }

    private static void lie(LetterScarecrow crow, int bed, int... words) {
        due("how many lie in BED " + bed, crow.bed(bed, 1), words.length);
        for (int k = 0; k < words.length; k++) {
            due("place " + k + " in BED " + bed, crow.lies(bed, k), words[k]);
        }
    }

    private static void atFirst() {
        sentence("It is YEAR 0 at first, he is WET by 0, nothing is tied, lies, was heard, grown or eaten");
        LetterScarecrow crow = crow("bed 3;letter 0 1 2;reader 0;");
        for (int what : new int[] {3, 4, 6, 7, 8, 10, 11}) {
            due("told(" + what + ")", crow.told(what), 0);
        }
        due("tied", crow.letter(0, 4), 0);
        due("heard", crow.reader(0, 1), 0);
        due("left", crow.letter(0, 2), 2);
        due("lies", crow.lies(0, 0), -1);
        due("grown", crow.grown(0), -1);
        sentence("WORDS run out of a LETTER in their order, and lie in its BED in the order in which they come");
        LetterScarecrow two = crow("bed 0;letter 0 1 2 3;letter 0 4 5 6;");
        work(two, "rain 1;");
        lie(two, 0, 1, 4);
        work(two, "rain 4;");
        lie(two, 0, 1, 4, 2, 3, 5, 6);
        sentence("STEPS are done in order");
        does(two, "year;eat 0;rain 5;year;", 4, 0);
        due("grown ahead of eaten", two.told(11) * 10 + two.told(8), 15);
    }

    private static void begun() {
        sentence("200 STEPS at most are begun by one WORK");
        LetterScarecrow crow = crow("bed 0;letter 0 1;");
        // 1 and 6 times 33 are 199
        does(crow, "again 6[again 30[year;];year;year;];tie 0;year;", 193, 0);
        due("the 200th is done", crow.letter(0, 4), 1);
        due("the 201st is left out", crow.told(3), 192);
        LetterScarecrow more = crow("bed 0;letter 0 1;");
        does(more, "again 6[again 30[year;];year;year;];year;tie 0;", 193, 0);
        due("the 200th is done", more.told(3), 193);
        due("the 201st is left out", more.letter(0, 4), 0);
        sentence("an again, too, each time it is come to");
        LetterScarecrow agains = crow("bed 0;letter 0 1;");
        // 1 and 30 times 6 is 181; 18 more agains and the last one make 199 and 200
        does(agains, "again 30[again 0[];again 0[];again 0[];again 0[];again 0[];again 0[];];again 18[again 0[];];tie 0;", 0, 0);
        due("begun: 1 and 180, 1 and 18", agains.letter(0, 4), 0);
        LetterScarecrow fewer = crow("bed 0;letter 0 1;");
        does(fewer, "again 30[again 0[];again 0[];again 0[];again 0[];again 0[];again 0[];];again 17[again 0[];];tie 0;", 1, 0);
        due("begun: 1 and 180, 1 and 17, 1", fewer.letter(0, 4), 1);
        sentence("REFUSED ones, too");
        LetterScarecrow refused = crow("bed 0;letter 0 1;");
        does(refused, "again 30[eat 0;eat 0;eat 0;eat 0;eat 0;eat 0;];again 17[eat 0;];tie 0;", 1, 197);
        LetterScarecrow late = crow("bed 0;letter 0 1;");
        does(late, "again 30[eat 0;eat 0;eat 0;eat 0;eat 0;eat 0;];again 18[eat 0;];tie 0;", 0, 198);
        sentence("what would come behind is left out");
        LetterScarecrow behind = crow("bed 0;letter 0 1;");
        // 2, 6 times 32, an again and 5 YEARS
        does(behind, "again 30[again 30[again 30[year;];tie 0;];];rain 1;", 191, 0);
        due("YEARS", behind.told(3), 185);
        due("no rain", behind.told(4), 0);
        sentence("how many STEPS were done (agains not counted, nor REFUSED ones)");
        LetterScarecrow counted = crow("bed 0;letter 0 1;");
        does(counted, "again 3[year;eat 0;again 2[tie 0;];];", 9, 3);
        does(counted, "again 0[year;eat 0;];", 0, 0);
        does(counted, "", 0, 0);
    }

    private static void wind() {
        sentence("the NEXT WORD of each LETTER that has any left, tied or not, is heard by all READERS whose BED is FAR N or less");
        LetterScarecrow crow = crow("bed 9;bed 10;bed 11;letter 0 1 4;letter 0 2;letter 0 0 5;letter 0 15;reader 0;reader 1;reader 2;");
        does(crow, "tie 0;wind 10;", 2, 0);
        due("FAR less than N", crow.reader(0, 1), 1 + 2 + 4 + 32768);
        due("FAR N", crow.reader(1, 1), 1 + 2 + 4 + 32768);
        due("FAR more than N", crow.reader(2, 1), 0);
        sentence("it stays where it is");
        due("left", crow.told(5), 6);
        due("lies", crow.told(6), 0);
        due("NEXT WORD", crow.letter(0, 3), 1);
        sentence("REFUSED, if nobody hears a WORD by it that he did not hear yet");
        refuses(crow, "wind 10;");
        does(crow, "wind 11;", 1, 0);
        refuses(crow, "wind 30;");
        does(crow, "rain 1;", 1, 0);
        due("tied: one of two is left", crow.letter(0, 2), 2);
        does(crow, "wind 9;", 1, 0);
        due("of a LETTER without WORDS none is heard", crow.reader(0, 1), 1 + 2 + 4 + 32768 + 32);
        does(crow, "tie 0;again 2[rain 20;];", 3, 0);
        due("none is left", crow.told(5), 0);
        refuses(crow, "wind 30;");
        refuses(crow("bed 0;letter 0 1;"), "wind 30;");
        refuses(crow("bed 0;reader 0;"), "wind 30;");
        refuses(crow(""), "wind 30;");
        refuses(crow("bed 2;letter 0 1;reader 0;"), "wind 1;");
        LetterScarecrow near = crow("bed 0;bed 30;letter 0 1;reader 0;reader 1;");
        does(near, "wind 1;", 1, 0);
        due("FAR 0", near.reader(0, 1), 2);
        does(near, "wind 29;", 0, 1);
        does(near, "wind 30;", 1, 0);
        due("FAR 30", near.reader(1, 1), 2);
        LetterScarecrow one = crow("bed 1;bed 2;letter 0 1;reader 0;reader 1;");
        does(one, "wind 1;wind 2;", 2, 0);
        due("one of two hears what the other one did", one.hearers(1), 3);
    }

    private static void rain() {
        sentence("he is WET by N more, 99 at most");
        LetterScarecrow crow = crow("bed 0;letter 0 1;");
        does(crow, "tie 0;again 4[rain 20;];rain 18;", 6, 0);
        due("98", crow.told(4), 98);
        does(crow, "rain 1;", 1, 0);
        due("99", crow.told(4), 99);
        does(crow, "rain 1;rain 20;", 2, 0);
        due("99 still", crow.told(4), 99);
        sentence("(never REFUSED)");
        does(crow(""), "rain 1;rain 20;", 2, 0);
        does(crow("bed 0;"), "rain 1;", 1, 0);
        sentence("of each that is not tied, as many WORDS as RUN tells (as it is by then; no more than are left) run out to its BED");
        LetterScarecrow tied = crow("bed 0;letter 0 1;letter 0 2;");
        work(tied, "tie 0;rain 1;");
        lie(tied, 0, 2);
        work(tied, "tie 0;rain 1;");
        lie(tied, 0, 2, 1);
        work(tied, "rain 20;");
        lie(tied, 0, 2, 1);
        due("LOST", tied.told(7), 0);
        byThen("0", 0, 0);
        byThen("0-1", 0, 0);
        byThen("8", 8, 5);
        byThen("9", 8, 5);
        byThen("rain", 3, 3);
        byThen("wet", 3, 3);
        byThen("left", 8, 5);
        byThen("left-7", 1, 0);
        byThen("far", 2, 2);
        byThen("lies", 0, 0);
        byThen("lies+2", 2, 4);
        byThen("2-lies", 2, 0);
        byThen("year", 0, 0);
        byThen("letter", 0, 1);
        byThen("letter+1", 1, 2);
        LetterScarecrow wet = crow("bed 0;" + EIGHT);
        law(wet, "wet-95");
        work(wet, "tie 0;again 4[rain 20;];rain 16;tie 0;rain 1;");
        due("WET by 97, with it: 2", wet.bed(0, 1), 2);
        work(wet, "rain 20;");
        due("WET by 99: 4 more", wet.bed(0, 1), 6);
        LetterScarecrow years = crow("bed 0;" + EIGHT);
        law(years, "year");
        work(years, "rain 20;year;year;rain 1;");
        due("YEAR 2", years.bed(0, 1), 2);
    }

    /** By rain of 3: how many of a LETTER with 8 WORDS run out, and then of one with 5 to the same BED, FAR 2. */
    private static void byThen(String law, int one, int other) {
        LetterScarecrow crow = crow("bed 2;" + EIGHT + "letter 0 9 10 11 12 13;");
        law(crow, law);
        work(crow, "rain 3;");
        due("of the first by " + law, crow.letter(0, 2), 8 - one);
        due("of the second by " + law, crow.letter(1, 2), 5 - other);
        due("no more than 12 by " + law, crow.bed(0, 1), Math.min(12, one + other));
    }

    private static void lost() {
        sentence("where 12 WORDS lie, more are LOST");
        LetterScarecrow crow = crow("bed 0;bed 1;" + EIGHT + "letter 0 9 10 11 12 13;letter 1 3;");
        law(crow, "4");
        work(crow, "rain 1;tie 1;rain 1;tie 1;");
        due("12 lie", crow.bed(0, 1), 12);
        due("none is LOST", crow.told(7), 0);
        lie(crow, 0, 1, 2, 3, 4, 9, 10, 11, 12, 5, 6, 7, 8);
        does(crow, "rain 1;", 1, 0);
        due("the 13th is LOST", crow.told(7), 1);
        due("it is left no more", crow.letter(1, 2), 0);
        lie(crow, 0, 1, 2, 3, 4, 9, 10, 11, 12, 5, 6, 7, 8);
        lie(crow, 1, 3);
        LetterScarecrow over = crow("bed 0;" + EIGHT + EIGHT);
        law(over, "8");
        work(over, "rain 1;");
        lie(over, 0, 1, 2, 3, 4, 5, 6, 7, 8, 1, 2, 3, 4);
        due("four of eight are LOST", over.told(7), 4);
        work(over, "year;rain 1;");
        due("none came behind", over.bed(0, 1), 11);
    }

    private static void tieAndWalk() {
        sentence("tie: the LETTER is tied, or tied no more (never REFUSED)");
        LetterScarecrow crow = crow("bed 0;bed 0;letter 1 1 2;letter 0 5;reader 0;reader 0;");
        does(crow, "tie 0;", 1, 0);
        due("tied", crow.letter(0, 4), 1);
        due("the other one is not", crow.letter(1, 4), 0);
        does(crow, "tie 0;", 1, 0);
        due("tied no more", crow.letter(0, 4), 0);
        does(crow, "rain 20;tie 0;", 2, 0);
        due("without WORDS, too", crow.letter(0, 4), 1);
        sentence("walk: the READER is at that BED, and has heard all WORDS that lie there (REFUSED, if he is there already)");
        due("at BED 0", crow.reader(0, 0), 0);
        refuses(crow, "walk 0 0;");
        due("he did not hear what lies there", crow.reader(0, 1), 0);
        does(crow, "walk 0 1;", 1, 0);
        due("at BED 1", crow.reader(0, 0), 1);
        due("he heard what lies there", crow.reader(0, 1), 2 + 4);
        due("the other one is where he was", crow.reader(1, 0), 0);
        due("the other one did not hear", crow.reader(1, 1), 0);
        refuses(crow, "walk 0 1;");
        does(crow, "eat 1;walk 0 0;", 2, 0);
        due("heard before, and now", crow.reader(0, 1), 2 + 4 + 32);
        does(crow, "walk 1 1;", 1, 0);
        due("nothing lies there", crow.reader(1, 1), 0);
    }

    private static void eat() {
        sentence("eat: nothing lies in the BED any more; that many are EATEN (REFUSED, if nothing lies there)");
        LetterScarecrow crow = crow("bed 0;bed 0;" + EIGHT + EIGHT + "letter 1 1;");
        refuses(crow, "eat 0;");
        law(crow, "8");
        does(crow, "rain 1;eat 0;", 2, 0);
        due("12 are EATEN", crow.told(8), 12);
        due("nothing lies there", crow.bed(0, 1), 0);
        due("the LOST ones are not EATEN", crow.told(7), 4);
        due("the other BED", crow.bed(1, 1), 1);
        refuses(crow, "eat 0;");
        does(crow, "eat 1;", 1, 0);
        due("13", crow.told(8), 13);
        does(crow, "eat 1;", 0, 1);
    }

    private static void year() {
        sentence("of each BED in which any lies the first WORD is gone, and is GROWN (BED by BED, one behind the other");
        LetterScarecrow crow = crow("bed 0;bed 0;bed 0;letter 2 7 8;letter 0 9;");
        does(crow, "year;", 1, 0);
        due("of none none is GROWN", crow.told(11), 0);
        does(crow, "rain 4;year;", 2, 0);
        due("GROWN", crow.told(11), 2);
        due("BED 0 first", crow.grown(0), 9);
        due("BED 2 behind it", crow.grown(1), 7);
        lie(crow, 0);
        lie(crow, 1);
        lie(crow, 2, 8);
        does(crow, "year;", 1, 0);
        due("one behind the other", crow.grown(2), 8);
        due("three", crow.told(11), 3);
        due("no fourth", crow.grown(3), -1);
        due("nothing lies", crow.told(6), 0);
        LetterScarecrow full = crow("bed 0;bed 0;" + EIGHT + "letter 0 9 10 11 12;letter 1 13;");
        law(full, "8");
        does(full, "rain 1;year;", 2, 0);
        lie(full, 0, 2, 3, 4, 5, 6, 7, 8, 9, 10, 11, 12);
        due("BED 0 first, then BED 1", full.grown(0) * 100 + full.grown(1), 113);
        does(full, "again 10[year;];", 10, 0);
        lie(full, 0, 12);
        lie(full, 1);
        does(full, "year;", 1, 0);
        for (int k = 2; k < 13; k++) {
            due("grown(" + k + ")", full.grown(k), k);
        }
        due("all", full.told(11), 13);
        sentence("he is WET by half (cut); the YEAR is one more");
        LetterScarecrow wet = crow("");
        does(wet, "year;", 1, 0);
        due("half of 0", wet.told(4), 0);
        does(wet, "rain 1;year;", 2, 0);
        due("half of 1", wet.told(4), 0);
        does(wet, "rain 3;year;", 2, 0);
        due("half of 3", wet.told(4), 1);
        does(wet, "again 5[rain 20;];year;", 6, 0);
        due("half of 99", wet.told(4), 49);
        due("YEAR", wet.told(3), 4);
    }

    private static void lastYear() {
        sentence("year (REFUSED from YEAR 400 on");
        LetterScarecrow crow = crow("bed 0;letter 0 1 2;");
        for (int i = 0; i < 2; i++) {
            does(crow, "again 6[again 30[year;];];again 9[year;];", 189, 0);
        }
        does(crow, "again 21[year;];rain 4;", 22, 0);
        due("YEAR 399", crow.told(3), 399);
        does(crow, "year;", 1, 0);
        due("YEAR 400", crow.told(3), 400);
        due("GROWN", crow.told(11), 1);
        does(crow, "rain 7;", 1, 0);
        refuses(crow, "year;");
        due("he is WET as he was", crow.told(4), 9);
        lie(crow, 0, 2);
        does(crow, "year;year;tie 0;", 1, 2);
        due("YEAR 400 still", crow.told(3), 400);
        sentence("YEARS go by as by year (beyond 400, too)");
        due("ahead: GROWN", crow.ahead(1, 1), 2);
        due("ahead: WET", crow.ahead(1, 2), 4);
        due("ahead: lies", crow.ahead(1, 0), 0);
        due("nothing stays changed", crow.told(3) * 10 + crow.told(6), 4001);
        LetterScarecrow late = crow("bed 0;letter 0 1 2;");
        law(late, "year / 401");
        for (int i = 0; i < 2; i++) {
            work(late, "again 6[again 30[year;];];again 9[year;];");
        }
        work(late, "again 22[year;];");
        due("YEAR 400", late.told(3), 400);
        due("no rain of YEAR 400 tells any", late.summer(1, 16, 1, 0), 2);
        due("both of YEAR 401 do", late.summer(1, 16, 2, 0), 0);
        due("nothing stays changed", late.told(3) * 10 + late.told(5), 4002);
    }

    private static void grown() {
        sentence("beyond 60 of them the first ones are forgotten, and all move up");
        // a GARDEN has 48 WORDS at most, so that 60 are never reached: all that can be stay
        StringBuilder text = new StringBuilder("bed 0;bed 0;bed 0;bed 0;bed 0;bed 0;");
        for (int letter = 0; letter < 6; letter++) {
            text.append("letter ").append(letter).append(" 0 1 2 3 4 5 6 7;");
        }
        LetterScarecrow crow = crow(text.toString());
        does(crow, "rain 20;rain 20;again 8[year;];", 10, 0);
        due("GROWN", crow.told(11), 48);
        for (int k = 0; k < 48; k++) {
            due("grown(" + k + ")", crow.grown(k), k / 6);
        }
        due("no 49th", crow.grown(48), -1);
        due("no 61st", crow.grown(60), -1);
        does(crow, "year;", 1, 0);
        due("GROWN still", crow.told(11), 48);
    }

    public static void main(String[] args) {
        atFirst();
        begun();
        wind();
        rain();
        lost();
        tieAndWalk();
        eat();
        year();
        lastYear();
        grown();
        finish();
    }
}
