/** Promise by promise: ordinary inputs, the edges that the document names, and wrong inputs. */
public final class PromiseTest extends Checks {
    private static void gardenFault(String text, int kind, int place) {
        LetterScarecrow crow = crow("bed 7;letter 0 1 2;");
        due("garden " + text, crow.garden(fed(crow, text)), kind - 10);
        due("place in garden " + text, crow.fault(), place);
        due("stays behind garden " + text, crow.told(5), 2);
        due("TAPE behind garden " + text, crow.count(1), 0);
    }

    private static void lawFault(String text, int kind, int place) {
        LetterScarecrow crow = crow("");
        law(crow, "7");
        due("law " + text, law(crow, text), kind - 10);
        due("place in law " + text, crow.fault(), place);
        due("stays behind law " + text, crow.would(0, 0, 0, 0, 0, 0, 0), 7);
        due("TAPE behind law " + text, crow.count(1), 0);
    }

    private static void workFault(String text, int kind, int place) {
        LetterScarecrow crow = crow("bed 1;bed 2;letter 1 3;reader 0;reader 1;");
        work(crow, "walk 0 0;");
        due("work " + text, work(crow, text), kind - 10);
        due("place in work " + text, crow.fault(), place);
        due("stays behind work " + text, crow.told(10) * 100 + crow.count(2) * 10 + crow.told(3), 110);
        due("TAPE behind work " + text, crow.count(1), 0);
    }

    private static void bookFault(String text, int kind, int place) {
        LetterScarecrow crow = crow("bed 1;bed 2;");
        book(crow, "0 16;");
        due("book " + text, book(crow, text), kind - 10);
        due("place in book " + text, crow.fault(), place);
        due("stays behind book " + text, crow.told(9), 1);
        due("TAPE behind book " + text, crow.count(1), 0);
    }

    private static int value(String law, int rain, int wet, int left, int far, int lies, int year) {
        LetterScarecrow crow = new LetterScarecrow();
        due("law " + law, law(crow, law), 1);
        return crow.would(rain, wet, left, far, lies, year, 5);
    }

    private static void newObject() {
        LetterScarecrow crow = new LetterScarecrow();
        for (int what = 0; what <= 11; what++) {
            due("told(" + what + ") of a new object", crow.told(what), 0);
        }
        due("fault() of a new object", crow.fault(), -1);
        for (int what = 0; what <= 2; what++) {
            due("count(" + what + ") of a new object", crow.count(what), 0);
        }
        due("status(0) of a new object", crow.status(0), 0);
        due("status(1) of a new object", crow.status(1), 0);
        due("its LAW", crow.would(20, 0, 0, 0, 0, 0, 0), 6);
        due("its undo()", crow.undo(), -1);
        due("its restore()", crow.restore(), -1);
    }

    private static void feeding() {
        LetterScarecrow crow = new LetterScarecrow();
        for (int i = 1; i <= 30; i++) {
            due("feed", crow.feed(1, 2, 3, 4, 5), 20 * i);
        }
        due("a 31st feed", crow.feed(1, 2, 3, 4, 5), -1);
        due("bytes behind it", crow.count(1), 600);
        due("garden of what can't stand there", crow.garden(600), -9);
        LetterScarecrow other = new LetterScarecrow();
        other.feed(0x62656420, 0x333b6265, 0x64203330, 0x3b620000, -1);
        due("highest byte first", other.garden(13), 0);
        due("two BEDS", other.told(0), 2);
        due("the second one's F", other.bed(1, 0), 30);
        other.feed(0xe9000000, 0, 0, 0, 0);
        due("a byte above 127", other.garden(1), -9);
    }

    private static void gardens() {
        LetterScarecrow crow = new LetterScarecrow();
        misused("garden(1) of an empty TAPE", () -> crow.garden(1));
        misused("garden(-1)", () -> crow.garden(-1));
        due("garden(0)", crow.garden(0), 0);
        fed(crow, "bed 1;");
        misused("garden(21) of 20 bytes", () -> crow.garden(21));
        due("the TAPE stays", crow.count(1), 20);
        due("garden(6)", crow.garden(6), 0);
        due("the TAPE is empty", crow.count(1), 0);
        String most = "bed 0;".repeat(5) + " bed0030 ; " + "letter 5 0 1 2 3 4 5 6 15;".repeat(6) + "reader 0;".repeat(5) + "  ";
        due("most of all", crow.garden(fed(crow, most)), 6);
        due("BEDS", crow.told(0), 6);
        due("READERS", crow.told(2), 5);
        due("WORDS", crow.told(5), 48);
        law(crow, "7");
        book(crow, "0 16;");
        work(crow, "rain 1;walk 0 0;walk 0 0;");
        crow.image();
        due("REFUSED ahead of garden()", crow.told(10), 2);
        due("garden() anew", crow.garden(fed(crow, "bed 2;letter 0 3;")), 1);
        due("no LAW", crow.would(8, 0, 0, 0, 0, 0, 0), 3);
        due("no BOOK", crow.told(9), 0);
        due("no IMAGES", crow.count(0), 0);
        due("nothing to undo", crow.count(2) + crow.undo(), -1);
        for (int what : new int[] {3, 4, 6, 7, 8, 10, 11}) {
            due("told(" + what + ") anew", crow.told(what), 0);
        }
        due("nothing lies", crow.bed(0, 1), 0);
        due("not tied", crow.letter(0, 4), 0);
        due("the NEXT WORD", crow.letter(0, 3), 3);
    }

    private static void gardenFaults() {
        gardenFault("bed", 1, 3);
        gardenFault("bed  ", 1, 5);
        gardenFault("bed 1", 1, 5);
        gardenFault("bed 1 2;", 1, 6);
        gardenFault("bed x;", 1, 4);
        gardenFault("beds 1;", 1, 0);
        gardenFault("beda1;", 1, 0);
        gardenFault("bedz1;", 1, 0);
        gardenFault("  be 1;", 1, 2);
        gardenFault("Bed 1;", 1, 0);
        gardenFault(";", 1, 0);
        gardenFault("bed 1;;", 1, 6);
        gardenFault("bed 31;", 2, 4);
        gardenFault("bed 31", 2, 4);
        gardenFault("bed 99999999999999999999;", 2, 4);
        gardenFault("bed 4294967296;", 2, 4);
        gardenFault("letter 0 1;", 2, 7);
        gardenFault("bed 0;letter 1 1;", 2, 13);
        gardenFault("bed 0;letter 0;", 1, 14);
        gardenFault("bed 0;letter 0", 1, 14);
        gardenFault("bed 0;letter 0 16;", 2, 15);
        gardenFault("bed 0;letter 0 1 2 3 4 5 6 7 8 9;", 3, 31);
        gardenFault("bed 0;letter 0 1 2 3 4 5 6 7 8 0;", 3, 31);
        gardenFault("bed 0;letter 0 1 2 3 4 5 6 7 8 15;", 3, 31);
        gardenFault("bed 0;letter 0 1 2 3 4 5 6 7 8 16;", 2, 31);
        gardenFault("bed 0;letter 0 1 2 3 4 5 6 7 8 x;", 1, 31);
        gardenFault("reader 0;bed 0;", 2, 7);
        gardenFault("bed 0;reader;", 1, 12);
        gardenFault("bed 0;".repeat(6) + " bed", 3, 37);
        gardenFault("bed 0;" + "letter 0 1;".repeat(6) + "letter", 3, 72);
        gardenFault("bed 0;" + "reader 0;".repeat(5) + "reader 9;", 3, 51);
    }

    private static void laws() {
        LetterScarecrow crow = new LetterScarecrow();
        for (int i = 0; i < 8; i++) {
            fed(crow, (i == 0 ? "1" : " ") + " ".repeat(19));
        }
        misused("law(151)", () -> crow.law(151));
        misused("law(-1)", () -> crow.law(-1));
        due("the TAPE stays", crow.count(1), 160);
        due("law(150)", crow.law(150), 1);
        due("the LAW", crow.would(20, 0, 0, 0, 0, 0, 0), 1);
        due("the TAPE is empty", crow.count(1), 0);
        misused("law(1) of an empty TAPE", () -> crow.law(1));
        due("rain", value("rain", 5, 0, 0, 0, 0, 0), 5);
        due("wet", value("wet", 0, 6, 0, 0, 0, 0), 6);
        due("left", value("left", 0, 0, 7, 0, 0, 0), 7);
        due("far", value("far", 0, 0, 0, 4, 0, 0), 4);
        due("lies", value("lies", 0, 0, 0, 0, 3, 0), 3);
        due("year", value("year - 395", 0, 0, 0, 0, 0, 400), 5);
        due("letter", value("letter", 0, 0, 0, 0, 0, 0), 5);
        due("8 at most", value("999", 0, 0, 0, 0, 0, 0), 8);
        due("0 at least", value("0 - 1", 0, 0, 0, 0, 0, 0), 0);
        due("- from the left", value("9 - 3 - 2", 0, 0, 0, 0, 0, 0), 4);
        due("/ from the left", value("100 / 10 / 2", 0, 0, 0, 0, 0, 0), 5);
        due("* ahead of +", value("1 + 2 * 3", 0, 0, 0, 0, 0, 0), 7);
        due("( )", value("( 1 + 2 ) * 2", 0, 0, 0, 0, 0, 0), 6);
        due("%", value("17 % 10 % 4", 0, 0, 0, 0, 0, 0), 3);
        due("% with its sign", value("(0-7) % 4 + 5", 0, 0, 0, 0, 0, 0), 2);
        due("/ cuts", value("(0-7) / 2 + 5", 0, 0, 0, 0, 0, 0), 2);
        due("/ by 0", value("4 + 7 / (rain)", 0, 0, 0, 0, 0, 0), 4);
        due("% by 0", value("4 + 7 % (rain)", 0, 0, 0, 0, 0, 0), 4);
        due("least", value("least[5,3]", 0, 0, 0, 0, 0, 0), 3);
        due("most", value(" most [ 5 , 3 ] ", 0, 0, 0, 0, 0, 0), 5);
        due("wraps", value("512*512*512*16/512/512/512+20", 0, 0, 0, 0, 0, 0), 4);
        due("wraps to the other side", value("512*512*512*15+512*512*512-1+(0-2)+1*0+2", 0, 0, 0, 0, 0, 0), 8);
        due("the least by -1", value("(512*512*512*16)/(0-1)/512/512/512+20", 0, 0, 0, 0, 0, 0), 4);
        due("the least by -1 leaves", value("(512*512*512*16)%(0-1)+3", 0, 0, 0, 0, 0, 0), 3);
        due("six open", value("((((((3))))))+(((2)))", 0, 0, 0, 0, 0, 0), 5);
        String wide = "1+1*least[0,1+1*least[0,1+1*least[0,1+1*least[0,1+1*least[0,1+1*most[2,1+1*3]]]]]]";
        due("many values open", value(wide, 0, 0, 0, 0, 0, 0), 1);
        due("no blanks", value("least[left/2,rain]-lies+far/10", 20, 0, 8, 30, 2, 0), 5);
    }

    private static void lawFaults() {
        lawFault("", 1, 0);
        lawFault("   ", 1, 3);
        lawFault("rain+", 1, 5);
        lawFault("1 2", 1, 2);
        lawFault("1;", 1, 1);
        lawFault("rains", 1, 0);
        lawFault("rai", 1, 0);
        lawFault("-1", 1, 0);
        lawFault("1000", 2, 0);
        lawFault("(1", 1, 2);
        lawFault("(1]", 1, 2);
        lawFault("()", 1, 1);
        lawFault("1)", 1, 1);
        lawFault("least(1,2)", 1, 5);
        lawFault("least[1;2]", 1, 7);
        lawFault("most[1,2", 1, 8);
        lawFault("4rain", 1, 1);
        lawFault("(((((((1", 3, 6);
        lawFault("((((( least[1, most", 3, 15);
        lawFault("((((((least", 3, 6);
        lawFault("((((((1)+(1)+(1)+((", 3, 18);
    }

    private static void works() {
        LetterScarecrow crow = crow("bed 3;bed 10;letter 0 1 2 3;letter 1 4 5;reader 0;reader 1;");
        for (int i = 0; i < 8; i++) {
            fed(crow, "year;               ");
        }
        misused("work(151)", () -> crow.work(151));
        misused("work(-1)", () -> crow.work(-1));
        due("the TAPE stays", crow.count(1), 160);
        due("work(150)", crow.work(150), 8);
        due("YEARS", crow.told(3), 8);
        due("undo", crow.undo(), 0);
        due("empty rounds", work(crow, "again 0[year;];again 30[];again 2[again 3[rain 1;];];"), 6);
        due("WET", crow.told(4), 6);
        // 1 and 6 times 31, then an again and 12 STEPS
        due("200 begun", work(crow, "again 30[again 30[year;];];again 2[year;];"), 192);
        due("YEARS behind", crow.told(3), 192);
        // 151, 31, 16 and the first two ties
        String whole = "again 30[year;year;year;year;year;];again 30[year;];again 15[year;];tie 0;tie 1;tie 0;";
        due("just 200 begun", work(crow, whole), 197);
        due("what came behind is left out", crow.letter(0, 4) + crow.letter(1, 4), 2);
        // 1 and 18 times 11, then an again
        due("REFUSED ones are begun, too", work(crow, "again 30[again 10[eat 0;];];rain 1;"), 0);
        due("how many were REFUSED", crow.told(10), 180);
        due("YEARS by now", crow.told(3), 387);
        due("no YEAR behind 400", work(crow, "again 16[year;];"), 13);
        due("REFUSED", crow.told(10), 3);
        due("YEAR", crow.told(3), 400);
        for (int i = crow.count(2); i < 16; i++) {
            due("work(0)", crow.work(0), 0);
        }
        fed(crow, "wnid");
        misused("work(21) ahead of -20", () -> crow.work(21));
        due("fault() ahead", crow.fault(), -1);
        law(crow, "x");
        fed(crow, "wnid");
        due("a FAULT behind -20", crow.work(4), -20);
        due("no FAULT", crow.fault(), -1);
        due("the TAPE is empty", crow.count(1), 0);
        crow.undo();
        due("undone: a FAULT", work(crow, "wnid"), -9);
    }

    private static void steps() {
        LetterScarecrow crow = crow("bed 3;bed 10;letter 0 1 2 3;letter 1 4 5;reader 0;reader 1;");
        due("a wind that nobody hears", work(crow, "wind 2;"), 0);
        due("REFUSED", crow.told(10), 1);
        due("a wind that one hears, tied or not", work(crow, "tie 1;wind 9;"), 2);
        due("he heard", crow.reader(0, 1), 2 + 16);
        due("the other one did not", crow.reader(1, 1), 0);
        due("it stays where it is", crow.letter(0, 2), 3);
        due("nothing new", work(crow, "wind 9;wind 10;wind 30;"), 1);
        due("rain", work(crow, "rain 8;"), 1);
        due("in their order", crow.lies(0, 0) * 100 + crow.lies(0, 1) * 10 + crow.lies(0, 2), 123);
        due("not of the tied one", crow.letter(1, 2), 2);
        due("who is there did not hear", crow.unread(0), 4 + 8);
        due("walk away, and back", work(crow, "walk 0 1;walk 0 0;walk 0 0;"), 2);
        due("heard all there", crow.reader(0, 1), 2 + 4 + 8 + 16);
        due("tied no more", work(crow, "tie 1;rain 1;"), 2);
        due("one came", crow.bed(1, 1), 1);
        due("year", work(crow, "year;"), 1);
        due("GROWN, BED by BED", crow.grown(0) * 10 + crow.grown(1), 14);
        due("WET by half, cut", crow.told(4), 4);
        due("eat", work(crow, "eat 0;eat 0;eat 1;"), 1);
        due("EATEN", crow.told(8), 2);
        due("wet by 99 at most", work(crow, "again 6[rain 20;];"), 6);
        due("WET", crow.told(4), 99);
    }

    /** Of 48 WORDS no more than 48 can grow, so that 60 are never reached. */
    private static void lostAndGrown() {
        String six = "letter 0 1 2 3 4 5 6 7 8;letter 0 9 10 11 12 13 14 15 0;letter 0 1 2 3;letter 1 5;";
        LetterScarecrow crow = crow("bed 0;bed 1;" + six);
        law(crow, "6 - lies / 2");
        work(crow, "rain 1;");
        // 6 of the first; 6 - 3 of the second, 6 - 9 / 2 = 2 of the third, 6 of the fourth
        due("RUN as it is by then", crow.letter(0, 2) * 1000 + crow.letter(1, 2) * 100 + crow.letter(2, 2) * 10 + crow.letter(3, 2), 2510);
        law(crow, "8");
        work(crow, "rain 1;");
        due("12 lie", crow.bed(0, 1), 12);
        due("LOST", crow.told(7), 7);
        due("the last that came", crow.lies(0, 11), 7);
        LetterScarecrow many = crow("bed 0;bed 0;bed 0;bed 0;bed 0;bed 0;letter 0 1 2 3 4 5 6 7 8;letter 1 2 2 2 2 2 2 2 2;"
            + "letter 2 3 3 3 3 3 3 3 3;letter 3 4 4 4 4 4 4 4 4;letter 4 5 5 5 5 5 5 5 5;letter 5 6 6 6 6 6 6 6 6;");
        due("48 GROWN", work(many, "again 6[rain 20;];again 8[year;];"), 14);
        due("how many", many.told(11), 48);
        due("the 7th", many.grown(6), 2);
        due("the last", many.grown(47), 6);
        due("no more", many.grown(48), -1);
    }

    private static void workFaults() {
        workFault("wind 0;", 2, 5);
        workFault("wind 31;", 2, 5);
        workFault("rain 0;", 2, 5);
        workFault("rain 21;", 2, 5);
        workFault("tie 1;", 2, 4);
        workFault("walk 2 0;", 2, 5);
        workFault("walk 0 2;", 2, 7);
        workFault("walk 0;", 1, 6);
        workFault("eat 2;", 2, 4);
        workFault("again 31[];", 2, 6);
        workFault("again 1;", 1, 7);
        workFault("again 1[year];", 1, 12);
        workFault("again 1[year;;", 1, 13);
        workFault("again 1[year;", 1, 13);
        workFault("again 1[]", 1, 9);
        workFault("year;year;year", 1, 14);
        workFault("year;]", 1, 5);
        workFault("years;", 1, 0);
        workFault("year 1;", 1, 5);
        workFault("YEAR;", 1, 0);
        workFault("again 1[".repeat(6) + "year;" + "];".repeat(5) + "again 1[again 1[again 1[again 1[again 1[ again 1[", 3, 104);
        workFault("again1[again1[again1[again1[again1[again1[ again x", 3, 43);
    }

    private static void books() {
        LetterScarecrow crow = crow("bed 1;bed 2;bed 3;");
        for (int i = 0; i < 4; i++) {
            fed(crow, "                    ");
        }
        misused("book(61)", () -> crow.book(61));
        misused("book(-1)", () -> crow.book(-1));
        due("the TAPE stays", crow.count(1), 80);
        due("book(60)", crow.book(60), 0);
        due("three lines", book(crow, " 2 16 ;0 0;1 15; "), 3);
        due("lines", crow.told(9), 3);
        due("an empty one", crow.book(0), 0);
        due("lines then", crow.told(9), 0);
        bookFault("0 17;", 2, 2);
        bookFault("2 1;", 2, 0);
        bookFault("0 1;1 1;0 1;", 2, 8);
        bookFault("0 1;0 x;", 2, 4);
        bookFault("0;", 1, 1);
        bookFault("0 1", 1, 3);
        bookFault("0 1 1;", 1, 4);
        bookFault("x", 1, 0);
        LetterScarecrow bare = new LetterScarecrow();
        due("no BEDS", book(bare, "0 16;"), -8);
    }

    private static void faults() {
        LetterScarecrow crow = crow("bed 1;");
        due("none", crow.fault(), -1);
        law(crow, "1+");
        due("of the latest text", crow.fault(), 2);
        misused("law(1)", () -> crow.law(1));
        due("no text was read", crow.fault(), 2);
        crow.undo();
        crow.image();
        crow.restore();
        due("stays", crow.fault(), 2);
        book(crow, "0 1;");
        due("gone", crow.fault(), -1);
    }

    private static void undone() {
        LetterScarecrow crow = crow("bed 3;bed 9;letter 0 1 2 3 4 5 6 7 8;letter 0 1 2 3 4 5 6 7 8;reader 0;");
        due("none", crow.undo(), -1);
        work(crow, "walk 0 0;");
        due("one with all REFUSED", crow.undo(), 0);
        due("REFUSED behind undo()", crow.told(10), 0);
        crow.work(0);
        due("one of no STEPS", crow.count(2), 1);
        due("undone", crow.undo(), 0);
        work(crow, "rain 20;tie 0;walk 0 1;wind 30;");
        work(crow, "rain 20;walk 0 0;year;eat 0;eat 0;");
        long there = fingerprint(crow);
        due("REFUSED", crow.told(10), 1);
        work(crow, "tie 1;rain 3;year;eat 0;walk 0 1;");
        due("three", crow.count(2), 3);
        due("undo", crow.undo(), 2);
        due("all as it was", fingerprint(crow), there);
        due("no LAW is undone", law(crow, "3"), 1);
        due("undo", crow.undo(), 1);
        due("undo", crow.undo(), 0);
        due("the LAW stays", crow.would(20, 0, 0, 0, 0, 0, 0), 3);
        due("nothing lies", crow.told(6) + crow.told(7) + crow.told(8) + crow.told(4) + crow.told(3) + crow.told(11), 0);
        due("not tied", crow.letter(0, 4), 0);
        due("back", crow.reader(0, 0) + crow.reader(0, 1), 0);
        due("all WORDS", crow.told(5), 16);
        due("no more", crow.undo(), -1);
    }

    private static void tellings() {
        LetterScarecrow crow = crow("bed 3;bed 10;letter 0 1 2 3;letter 1 4 5;reader 0;reader 1;reader 1;");
        book(crow, "0 1;");
        work(crow, "rain 4;rain 1;eat 1;year;eat 1;tie 0;");
        int[] want = {2, 2, 3, 1, 2, 0, 2, 0, 2, 1, 1, 1};
        for (int what = 0; what <= 11; what++) {
            due("told(" + what + ")", crow.told(what), want[what]);
        }
        misused("told(12)", () -> crow.told(12));
        misused("told(-1)", () -> crow.told(-1));
        int[] letter = {0, 3, 0, -1, 1};
        for (int what = 0; what <= 4; what++) {
            due("letter(0, " + what + ")", crow.letter(0, what), letter[what]);
        }
        misused("letter(0, 5)", () -> crow.letter(0, 5));
        misused("letter(0, -1)", () -> crow.letter(0, -1));
        missing("letter(2, 5)", () -> crow.letter(2, 5));
        missing("letter(-1, 0)", () -> crow.letter(-1, 0));
        due("word(0, 0), run out", crow.word(0, 0), 1);
        due("word(0, 2)", crow.word(0, 2), 3);
        misused("word(0, 3)", () -> crow.word(0, 3));
        misused("word(0, -1)", () -> crow.word(0, -1));
        missing("word(2, -1)", () -> crow.word(2, -1));
        int[] bed = {3, 2, 4 + 8, 2, 1};
        for (int what = 0; what <= 4; what++) {
            due("bed(0, " + what + ")", crow.bed(0, what), bed[what]);
        }
        due("an empty one's first", crow.bed(1, 3), -1);
        due("who are there", crow.bed(1, 4), 2 + 4);
        misused("bed(0, 5)", () -> crow.bed(0, 5));
        misused("bed(0, -1)", () -> crow.bed(0, -1));
        missing("bed(2, 9)", () -> crow.bed(2, 9));
        missing("bed(-1, 0)", () -> crow.bed(-1, 0));
        due("lies(0, 1)", crow.lies(0, 1), 3);
        due("lies(0, 2)", crow.lies(0, 2), -1);
        due("lies(0, far beyond)", crow.lies(0, Integer.MAX_VALUE), -1);
        misused("lies(0, -1)", () -> crow.lies(0, -1));
        missing("lies(2, -1)", () -> crow.lies(2, -1));
        due("reader(2, 0)", crow.reader(2, 0), 1);
        misused("reader(0, 2)", () -> crow.reader(0, 2));
        misused("reader(0, -1)", () -> crow.reader(0, -1));
        missing("reader(3, 2)", () -> crow.reader(3, 2));
        missing("reader(-1, 0)", () -> crow.reader(-1, 0));
        due("grown(0)", crow.grown(0), 1);
        due("grown(1)", crow.grown(1), -1);
        due("grown(far beyond)", crow.grown(Integer.MAX_VALUE), -1);
        misused("grown(-1)", () -> crow.grown(-1));
    }

    private static void rainsAhead() {
        LetterScarecrow crow = crow("bed 3;bed 10;letter 0 1 2 3;letter 1 4 5 6 7 8 9;");
        due("runs of rain / 4 + 1", crow.runs(1, 19), 5);
        due("no more than are left", crow.runs(0, 20), 3);
        law(crow, "wet - 2 * lies");
        due("WET by it", crow.runs(0, 2), 2);
        work(crow, "tie 0;");
        due("tied or not", crow.runs(0, 2), 2);
        due("he is not WET", crow.told(4), 0);
        misused("runs(0, 0)", () -> crow.runs(0, 0));
        misused("runs(0, 21)", () -> crow.runs(0, 21));
        missing("runs(2, 0)", () -> crow.runs(2, 0));
        missing("runs(-1, 1)", () -> crow.runs(-1, 1));
        LetterScarecrow wet = crow("bed 0;letter 0 1 2 3 4 5 6 7 8;");
        law(wet, "wet - 95");
        work(wet, "tie 0;again 5[rain 19;];");
        due("99 at most", wet.runs(0, 20), 4);
    }

    private static void wouldBe() {
        LetterScarecrow crow = new LetterScarecrow();
        due("without a LAW", crow.would(7, 0, 0, 0, 0, 0, 0), 2);
        int[] most = {20, 99, 8, 30, 12, 400, 5};
        for (int i = 0; i < 7; i++) {
            int[] x = most.clone();
            due("most of each", crow.would(x[0], x[1], x[2], x[3], x[4], x[5], x[6]), 6);
            x[i]++;
            misused("would, one more of " + i, () -> crow.would(x[0], x[1], x[2], x[3], x[4], x[5], x[6]));
            int[] y = new int[7];
            y[i] = -1;
            misused("would, below 0 of " + i, () -> crow.would(y[0], y[1], y[2], y[3], y[4], y[5], y[6]));
        }
        law(crow, "8");
        due("not held by what is left", crow.would(0, 0, 0, 0, 0, 0, 0), 8);
    }

    private static void yearsAhead() {
        LetterScarecrow crow = crow("bed 3;bed 10;letter 0 1 2 3;letter 1 4 5 6 7 8 9;");
        work(crow, "rain 20;rain 20;rain 19;year;");
        due("lies now", crow.ahead(0, 0), 7);
        due("in a YEAR", crow.ahead(1, 0), 5);
        due("in three", crow.ahead(3, 0), 2);
        due("GROWN in three", crow.ahead(3, 1), 7);
        due("GROWN in 99", crow.ahead(99, 1), 9);
        due("WET", crow.ahead(0, 2), 29);
        due("WET in three", crow.ahead(3, 2), 3);
        due("nothing stays changed", crow.told(3) * 100 + crow.told(6), 107);
        misused("ahead(100, 0)", () -> crow.ahead(100, 0));
        misused("ahead(-1, 0)", () -> crow.ahead(-1, 0));
        misused("ahead(0, 3)", () -> crow.ahead(0, 3));
        misused("ahead(0, -1)", () -> crow.ahead(0, -1));
        work(crow, "again 30[year;year;year;year;year;year;];");
        work(crow, "again 30[year;year;year;year;year;year;];");
        work(crow, "again 30[year;year;year;year;year;year;];");
        due("YEAR 400", crow.told(3), 400);
        work(crow, "rain 7;");
        due("beyond 400, too", crow.ahead(1, 2), 3);
    }

    private static void howManyRains() {
        LetterScarecrow crow = crow("bed 3;bed 10;letter 0 1 2 3;letter 1 4 5 6 7 8 9;");
        due("the first", crow.rains(0, 1, 1), 1);
        due("the third", crow.rains(0, 3, 1), 3);
        due("two at a time", crow.rains(0, 3, 4), 2);
        due("in the other BED", crow.rains(1, 1, 1), -1);
        work(crow, "rain 1;tie 1;");
        due("it lies there by now", crow.rains(0, 1, 1), 0);
        due("tied", crow.rains(1, 9, 20), -1);
        law(crow, "wet / 40");
        due("by how WET he is", crow.rains(0, 2, 1), 39);
        due("nothing stays changed", crow.told(4), 1);
        work(crow, "again 15[year;];");
        due("at the 40th", crow.rains(0, 2, 1), 40);
        law(crow, "wet / 41");
        due("not by 40", crow.rains(0, 2, 1), -1);
        misused("rains(0, 16, 1)", () -> crow.rains(0, 16, 1));
        misused("rains(0, -1, 1)", () -> crow.rains(0, -1, 1));
        misused("rains(0, 0, 0)", () -> crow.rains(0, 0, 0));
        misused("rains(0, 0, 21)", () -> crow.rains(0, 0, 21));
        missing("rains(2, 16, 0)", () -> crow.rains(2, 16, 0));
        LetterScarecrow full = crow("bed 0;letter 0 1 1 1 1 1 1 1 1;letter 0 1 1 1 1 1 1 2 2;");
        due("what is LOST never lies there", full.rains(0, 2, 20), -1);
    }

    private static void stuffing() {
        LetterScarecrow crow = crow("bed 0;letter 0 1 2;letter 0 3 1;letter 0 2 9 3;letter 0 7;");
        // 0 2 1: 1 2, 2 9 3, 3 1; and so round
        due("SEAMS", crow.stuff(), 2);
        int[] order = {0, 2, 1, 3};
        for (int k = 0; k < 4; k++) {
            due("stuffed(" + k + ")", crow.stuffed(k), order[k]);
        }
        due("stuffed(4)", crow.stuffed(4), -1);
        misused("stuffed(-1)", () -> crow.stuffed(-1));
        work(crow, "rain 1;");
        // left: 2 | 1 | 9 3 | nothing
        due("SEAMS of what is left", crow.stuff(), 0);
        due("three places", crow.stuffed(2) * 10 + crow.stuffed(3), 19);
        LetterScarecrow one = crow("bed 0;letter 0 5;letter 0 5;letter 0 5 6;letter 0 6 5;");
        due("all SEAMS", one.stuff(), 3);
        due("the first order", ((one.stuffed(0) * 10 + one.stuffed(1)) * 10 + one.stuffed(2)) * 10 + one.stuffed(3), 123);
        LetterScarecrow late = crow("bed 0;letter 0 1 4;letter 0 2 1;letter 0 3 2;letter 0 9 3;letter 0 8 9;letter 0 7 8;");
        due("five SEAMS", late.stuff(), 5);
        due("backwards", late.stuffed(0) * 10 + late.stuffed(5), 50);
    }

    private static void bedSets() {
        LetterScarecrow crow = crow("bed 0;bed 0;bed 0;letter 0 1 2;letter 1 2 3;letter 2 1 3;reader 0;reader 2;");
        work(crow, "rain 4;");
        due("none told", crow.all(0), 0);
        due("one", crow.all(4), 1);
        due("of as few the least bits", crow.all(2 + 4 + 8), 3);
        due("two in one", crow.all(2 + 8), 4);
        due("NONE", crow.all(1), -1);
        misused("all(-1)", () -> crow.all(-1));
        misused("all(65536)", () -> crow.all(65536));
        due("all(65535)", crow.all(65535), -1);
        due("tour", crow.tour(0), 3);
        work(crow, "walk 0 2;");
        due("tour of what is left", crow.tour(0), 1);
        work(crow, "walk 0 1;");
        due("heard all", crow.tour(0), 0);
        due("his own BED may be one", crow.tour(1), 3);
        work(crow, "eat 0;eat 1;");
        due("only his own", crow.tour(1), 4);
        missing("tour(2)", () -> crow.tour(2));
        missing("tour(-1)", () -> crow.tour(-1));
    }

    private static void fitting() {
        LetterScarecrow crow = crow("bed 0;bed 0;bed 0;letter 0 1 2 1;letter 1 1 1;letter 0 5;");
        due("without lines", crow.fits(0), 27);
        due("the first", crow.fits(1), 1);
        book(crow, "0 1;");
        due("1, 3 and more", crow.fits(0), 8);
        book(crow, "0 2;");
        due("only 2", crow.fits(0) * 100 + crow.fits(1), 102);
        book(crow, "0 16;");
        due("none lies there", crow.fits(0) * 100 + crow.fits(1), 911);
        book(crow, "0 9;");
        due("no pair", crow.fits(0) * 100 + crow.fits(1), -1);
        due("look by no pair", crow.look(0) * 100 + crow.look(1), 100);
        book(crow, "");
        // BED 0: last 1 by 8, 2 by 1, 5 by 9, none by 9; BED 1: 1 by 9, none by 18; BED 2: none by 27
        due("look", crow.look(0) * 100 + crow.look(1), 9);
        book(crow, "0 16;");
        due("look at others: 9 by 1, and none", crow.look(0) * 100 + crow.look(1), 109);
        book(crow, "0 16;1 1;2 16;");
        due("all are in lines", crow.look(0) + crow.look(1), -2);
        misused("fits(2)", () -> crow.fits(2));
        misused("fits(-1)", () -> crow.fits(-1));
        misused("look(2)", () -> crow.look(2));
        misused("look(-1)", () -> crow.look(-1));
        work(crow, "tie 0;rain 20;");
        book(crow, "0 2;");
        due("tied or not, behind what lies", crow.fits(1), 2);
        LetterScarecrow full = crow("bed 0;letter 0 1 1 1 1 1 1 1 1;letter 0 1 1 1 2 3 4 5 6;letter 0 9 8 7;");
        law(full, "8 - letter * 5");
        work(full, "rain 1;");
        book(full, "0 3;");
        // 11 lie there: one more has room, the others are LOST
        due("11 lie", full.bed(0, 1), 11);
        due("those beyond 12 are LOST", full.fits(0), 0);
        book(full, "0 2;");
        due("of the second one, by any n", full.fits(0) * 100 + full.fits(1), 911);
    }

    private static void chances() {
        LetterScarecrow crow = new LetterScarecrow();
        due("one half", crow.pods(1, 1, 8, 0) * 1000 + crow.pods(1, 1, 8, 1), 1002);
        due("by 1 of 16, 12 of 12, below", crow.pods(12, 12, 1, 1), 1L << 48);
        due("by 1 of 16, 12 of 12, above", crow.pods(12, 12, 1, 0), 1);
        due("by 15 of 16, 1 of 12, above", crow.pods(12, 1, 15, 0), (1L << 48) - 1);
        due("2 of 3 by 4 of 16", crow.pods(3, 2, 4, 0) * 1000 + crow.pods(3, 2, 4, 1), 5032);
        due("surely", crow.pods(12, 12, 16, 0) * 1000 + crow.pods(12, 12, 16, 1), 1001);
        due("never", crow.pods(5, 1, 0, 0) * 1000 + crow.pods(5, 1, 0, 1), 1);
        due("k above n", crow.pods(5, 6, 16, 0) * 1000 + crow.pods(5, 6, 16, 1), 1);
        due("k 0", crow.pods(5, 0, 0, 0) * 1000 + crow.pods(5, 0, 0, 1), 1001);
        due("n 0", crow.pods(0, 0, 3, 0) * 1000 + crow.pods(0, 1, 3, 1), 1001);
        int[][] bad = {{13, 0, 0, 0}, {-1, 0, 0, 0}, {0, 14, 0, 0}, {0, -1, 0, 0}, {0, 0, 17, 0}, {0, 0, -1, 0}, {0, 0, 0, 2}, {0, 0, 0, -1}};
        for (int[] x : bad) {
            misused("pods", () -> crow.pods(x[0], x[1], x[2], x[3]));
        }
    }

    private static void sheAndTheWind() {
        LetterScarecrow crow = new LetterScarecrow();
        int[][] want = {{5, 3, 1, 11, 4}, {3, 5, 2, 1, 3}, {0, 0, 4, 0, 0}, {4, 4, 3, 1, 4}, {0, 7, 2, 1, 0}, {7, 0, 1, 11, 14}, {99, 99, 3, 1, 99}};
        for (int[] x : want) {
            for (int what = 0; what <= 2; what++) {
                due("she(" + x[0] + ", " + x[1] + ", " + what + ")", crow.she(x[0], x[1], what), x[2 + what]);
            }
        }
        int[][] bad = {{100, 0, 0}, {-1, 0, 0}, {0, 100, 0}, {0, -1, 0}, {0, 0, 3}, {0, 0, -1}};
        for (int[] x : bad) {
            misused("she", () -> crow.she(x[0], x[1], x[2]));
        }
    }

    private static void seeds() {
        LetterScarecrow crow = crow("bed 0;bed 0;bed 0;letter 0 1 1 1 1 1;letter 1 2 2;letter 2 3 3 3 3 3 3 3;");
        law(crow, "8");
        work(crow, "rain 1;");
        due("all, if they are no more", crow.seed(2, 7, 14), 7);
        due("all of far more", crow.seed(0, 7, 99), 5);
        due("levelled: 5, 2, 6", crow.seed(2, 7, 13), 6);
        due("levelled: 4, 2, 4, with one over", crow.seed(2, 7, 11), 4);
        due("no more than lie there", crow.seed(1, 7, 11), 2);
        due("nothing", crow.seed(0, 7, 2), 0);
        due("one each", crow.seed(1, 7, 3), 1);
        due("of two", crow.seed(2, 5, 9), 4);
        due("none of them", crow.seed(1, 5, 99), 0);
        due("no BED told", crow.seed(1, 0, 99), 0);
        due("n 0", crow.seed(1, 7, 0), 0);
        misused("bits of no BEDS", () -> crow.seed(0, 8, 1));
        misused("bits below 0", () -> crow.seed(0, -1, 1));
        misused("seed of 100", () -> crow.seed(0, 7, 100));
        misused("seed of -1", () -> crow.seed(0, 7, -1));
        missing("seed(3, 8, -1)", () -> crow.seed(3, 8, -1));
        missing("seed(-1, 0, 0)", () -> crow.seed(-1, 0, 0));
        due("often", crow.often(0) * 100 + crow.often(1), 307);
        work(crow, "year;year;");
        due("often, alike ones", crow.often(0) * 100 + crow.often(1), 305);
        work(crow, "eat 2;");
        due("often", crow.often(0) * 100 + crow.often(1), 103);
        work(crow, "eat 0;");
        due("nothing lies anywhere", crow.often(0) + crow.often(1), -2);
        misused("often(2)", () -> crow.often(2));
        misused("often(-1)", () -> crow.often(-1));
        LetterScarecrow alike = crow("bed 0;bed 0;letter 0 4;letter 1 2;letter 0 2;letter 1 4;");
        work(alike, "rain 1;");
        due("of alike ones the least", alike.often(0) * 100 + alike.often(1), 202);
    }

    private static void hearing() {
        LetterScarecrow crow = crow("bed 3;bed 10;letter 0 0 2 3;letter 1 15 5;reader 0;reader 1;reader 1;");
        work(crow, "walk 2 0;wind 3;");
        due("hearers(15)", crow.hearers(15), 1 + 4);
        due("hearers(0)", crow.hearers(0), 1 + 4);
        due("hearers(1)", crow.hearers(1), 0);
        misused("hearers(16)", () -> crow.hearers(16));
        misused("hearers(-1)", () -> crow.hearers(-1));
        due("news, too far", crow.news(1, 9), 0);
        due("news", crow.news(1, 10), 1 + 32768);
        due("no news", crow.news(0, 30), 0);
        work(crow, "rain 1;tie 1;");
        due("news of the next ones, tied or not", crow.news(0, 30), 4 + 32);
        misused("news(0, 0)", () -> crow.news(0, 0));
        misused("news(0, 31)", () -> crow.news(0, 31));
        missing("news(3, 0)", () -> crow.news(3, 0));
        missing("news(-1, 1)", () -> crow.news(-1, 1));
        due("unread, heard already", crow.unread(0), 0);
        due("unread", crow.unread(1), 32768);
        missing("unread(3)", () -> crow.unread(3));
        missing("unread(-1)", () -> crow.unread(-1));
        due("shared", crow.shared(0, 2), 2);
        due("shared with none", crow.shared(0, 1), 0);
        due("of one", crow.shared(2, 2), 2);
        missing("shared(3, 0)", () -> crow.shared(3, 0));
        missing("shared(0, 3)", () -> crow.shared(0, 3));
        missing("shared(0, -1)", () -> crow.shared(0, -1));
        due("counted once each", crow.status(0), 7);
    }

    private static void draining() {
        LetterScarecrow crow = crow("bed 3;bed 10;bed 11;letter 0 1 2 3 4 5 6;letter 0 1 2 3 4 5 6;letter 1 4;letter 0 8 9;");
        due("drains(0)", crow.drains(0), 1 + 2 + 8);
        due("none is full", crow.full(0), 0);
        due("all are empty", crow.full(1), 7);
        work(crow, "tie 3;tie 1;");
        due("coming, tied", crow.coming(0, 0), 8);
        due("coming, not tied", crow.coming(0, 1), 6);
        work(crow, "rain 20;");
        due("drains(0), what is left", crow.drains(0), 2 + 8);
        due("drains(1)", crow.drains(1), 0);
        due("coming(0, 1)", crow.coming(0, 1), 0);
        work(crow, "tie 1;rain 20;");
        due("full", crow.full(0), 1);
        due("empty", crow.full(1), 4);
        due("coming(0, 0)", crow.coming(0, 0), 2);
        misused("full(2)", () -> crow.full(2));
        misused("full(-1)", () -> crow.full(-1));
        misused("coming(0, 2)", () -> crow.coming(0, 2));
        misused("coming(0, -1)", () -> crow.coming(0, -1));
        missing("coming(3, 2)", () -> crow.coming(3, 2));
        missing("drains(3)", () -> crow.drains(3));
        missing("drains(-1)", () -> crow.drains(-1));
    }

    /** By hand: SEED 0 draws 0, 21468, 9988, 22117, 3498, 16927, 16045 and so on. */
    private static void summers() {
        LetterScarecrow crow = crow("bed 5;bed 6;letter 0 1 2 3 4 5 6 7 8;letter 1 9 9;reader 0;reader 1;");
        // 0 % 16 below 1: 21468 % 20 + 1 = 9 of rain: 3 WORDS, 2 WORDS; reader 9988 % 2 = 0 walks to 22117 % 2 = 1: 9;
        // 3498 % 16 = 10: wind of 16927 % 30 + 1 = 8: all hear 4; reader 16045 % 2 = 1, .. ; year: 1 and 9 grow
        due("left", crow.summer(0, 1, 1, 0), 5);
        due("GROWN", crow.summer(0, 1, 1, 1), 2);
        due("lies", crow.summer(0, 1, 1, 2), 3);
        due("without rain", crow.summer(0, 0, 48, 0), 10);
        due("only rain", crow.summer(77, 16, 48, 0), 0);
        due("all grown by then", crow.summer(77, 16, 48, 1), 10);
        due("all gone", crow.summer(77, 16, 48, 2), 0);
        due("nothing stays changed", crow.told(5) * 100 + crow.told(3), 1000);
        due("heard by wind alone", crow.summer(5, 0, 48, 3), 2 + 512);
        int[][] bad = {{0, 17, 1, 0}, {0, -1, 1, 0}, {0, 0, 0, 0}, {0, 0, 49, 0}, {0, 0, 1, 4}, {0, 0, 1, -1}};
        for (int[] x : bad) {
            misused("summer", () -> crow.summer(x[0], x[1], x[2], x[3]));
        }
        int fewest = 99;
        int most = -1;
        for (int i = 0; i < 10; i++) {
            int left = crow.summer(Integer.MAX_VALUE - 3 + i, 3, 2, 0);
            fewest = Math.min(fewest, left);
            most = Math.max(most, left);
        }
        due("fewest of ten, as it wraps", crow.span(Integer.MAX_VALUE - 3, 10, 3, 2, 0, 0), fewest);
        due("most of ten", crow.span(Integer.MAX_VALUE - 3, 10, 3, 2, 1, 1), most);
        due("they differ", fewest < most ? 1 : 0, 1);
        due("a BED has any, by all", crow.span(0, 1, 1, 1, 2, 0), 1);
        due("by none", crow.span(0, 10, 0, 5, 2, 0), 0);
        int[][] wrongOnes = {{0, 0, 0, 1, 0, 0}, {0, 11, 0, 1, 0, 0}, {0, 1, 17, 1, 0, 0}, {0, 1, -1, 1, 0, 0}, {0, 1, 0, 0, 0, 0},
            {0, 1, 0, 49, 0, 0}, {0, 1, 0, 1, 3, 0}, {0, 1, 0, 1, -1, 0}, {0, 1, 0, 1, 0, 2}, {0, 1, 0, 1, 1, -1}, {0, 1, 0, 1, 2, 2}};
        for (int[] x : wrongOnes) {
            misused("span", () -> crow.span(x[0], x[1], x[2], x[3], x[4], x[5]));
        }
        due("no NoSuchElementException by span", crow.status(0), 0);
        LetterScarecrow alone = crow("bed 5;letter 0 1 2 3 4 5 6 7 8;");
        // rain of 9; 9988 % 16 = 4: of 22117 % 20 + 1 = 18, 5 WORDS; by 4 it is a wind
        due("without READERS, one rain", alone.summer(0, 4, 1, 0), 5);
        due("without READERS", alone.summer(0, 16, 1, 0), 0);
        due("nobody hears", alone.summer(0, 0, 48, 3), 0);
    }

    private static void imaging() {
        LetterScarecrow crow = crow("bed 3;bed 9;letter 0 1 2 3 4 5 6 7 8;letter 0 1 2 3 4 5 6 7 8;reader 0;");
        due("none", crow.restore(), -1);
        work(crow, "rain 4;walk 0 0;");
        long first = fingerprint(crow);
        due("image", crow.image(), 1);
        due("REFUSED stays", crow.told(10), 1);
        work(crow, "walk 0 1;year;");
        work(crow, "walk 0 0;rain 3;tie 1;");
        long second = fingerprint(crow);
        due("image", crow.image(), 2);
        due("image", crow.image(), 3);
        due("a fourth", crow.image(), -1);
        due("three", crow.count(0), 3);
        due("restore", crow.restore(), 2);
        crow.undo();
        crow.undo();
        work(crow, "eat 0;");
        work(crow, "year;year;walk 0 0;walk 0 0;");
        due("REFUSED ahead", crow.told(10), 2);
        law(crow, "5");
        book(crow, "1 16;");
        fed(crow, "x");
        misused("told(99)", () -> crow.told(99));
        due("restore", crow.restore(), 1);
        due("as it was", fingerprint(crow), second);
        due("REFUSED behind restore()", crow.told(10), 0);
        due("the LAW stays", crow.would(0, 0, 0, 0, 0, 0, 0), 5);
        due("the BOOK stays", crow.told(9), 1);
        due("the TAPE stays", crow.count(1), 20);
        due("status stays", crow.status(1), 1);
        due("WORKS", crow.count(2), 3);
        due("undo", crow.undo(), 2);
        due("undo", crow.undo(), 1);
        due("as at first", fingerprint(crow), first);
        due("undo", crow.undo(), 0);
        due("restore", crow.restore(), 0);
        due("as at first again", fingerprint(crow), first);
        due("its WORKS", crow.count(2), 1);
        due("no more", crow.restore(), -1);
        due("undo", crow.undo(), 0);
        due("nothing lies", crow.told(6), 0);
    }

    private static void beginningAnew() {
        String garden = "bed 0;bed 1;letter 0 1 2;letter 1 3 4;reader 0;reader 1;";
        LetterScarecrow crow = crow(garden);
        long first = fingerprint(crow);
        law(crow, "8");
        work(crow, "tie 1;wind 30;rain 20;year;walk 0 1;walk 1 0;eat 0;tie 0;");
        due("changed", fingerprint(crow) == first ? 1 : 0, 0);
        crow.garden(fed(crow, garden));
        due("as at first", fingerprint(crow), first);
        LetterScarecrow other = crow("bed 0;letter 0 1;letter 0 2;");
        work(other, "tie 1;rain 1;year;");
        other.image();
        other.undo();
        work(other, "tie 0;rain 1;year;");
        due("another one GROWN", other.grown(0), 2);
        other.restore();
        due("the one of the IMAGE", other.grown(0), 1);
        other.garden(fed(other, "bed 5;bed"));
        other.garden(fed(other, "bed 6;"));
        due("nothing is left of a text with a FAULT", other.told(0) * 100 + other.bed(0, 0), 106);
    }

    /** The least and greatest numbers that are still fine. */
    private static void edges() {
        LetterScarecrow crow = crow("bed 1;bed 0;letter 0 0;letter 0 15;letter 1 3 3;reader 0;");
        due("runs(0, 1)", crow.runs(0, 1), 1);
        due("rains(0, 0, 1)", crow.rains(0, 0, 1), 1);
        due("rains(0, 15, 20)", crow.rains(0, 15, 20), 1);
        due("news(0, 1)", crow.news(0, 1), 1 + 8 + 32768);
        due("news(0, 30)", crow.news(0, 30), 1 + 8 + 32768);
        due("wind 1", work(crow, "wind 1;tie 2;rain 1;"), 3);
        due("often 0", crow.often(0) * 100 + crow.often(1), 1);
        due("drains, two left", crow.drains(1), 4);
        work(crow, "tie 2;rain 1;tie 2;");
        due("drains, one left", crow.drains(1), 4);
        crow.undo();
        due("news of one LETTER, the others being empty", crow.news(0, 30), 0);
        due("no SEAMS of one", crow.stuff(), 0);
        due("its place", crow.stuffed(0), 2);
        due("a BED with any", crow.span(1, 10, 0, 1, 2, 0), 10);
        due("a BED without", crow.span(1, 10, 0, 2, 2, 0), 0);
        due("none left of none", crow("bed 0;letter 0 1;").span(3, 4, 16, 1, 1, 0), 0);
        book(crow, "0 15;");
        due("what lies last now", crow.fits(0), 27);
        book(crow, "0 0;");
        due("what lies there, but not last", crow.fits(0), 0);
        work(crow, "eat 0;");
        book(crow, "0 16;");
        due("nothing lies there", crow.fits(0), 27);
        due("look(1)", crow.look(0) * 100 + crow.look(1), 118);
        LetterScarecrow one = crow("bed 0;bed 0;letter 1 1;reader 0;");
        // rain of 9; READER 9988 % 1 walks to BED 22117 % 2
        due("a SUMMER with one READER", one.summer(0, 16, 1, 3), 2);
    }

    private static void counting() {
        LetterScarecrow crow = crow("bed 3;reader 0;");
        missing("bed(1, 9)", () -> crow.bed(1, 9));
        missing("tour(1)", () -> crow.tour(1));
        misused("told(12)", () -> crow.told(12));
        due("status(0)", crow.status(0), 2);
        due("status(1)", crow.status(1), 1);
        misused("grown(-1)", () -> crow.grown(-1));
        misused("stuffed(-1)", () -> crow.stuffed(-1));
        misused("lies(0, -1)", () -> crow.lies(0, -1));
        due("status(1) of places below 0", crow.status(1), 4);
        crow.image();
        misused("work(1)", () -> crow.work(1));
        crow.restore();
        due("no IMAGE keeps it", crow.status(1), 5);
        crow.garden(0);
        due("no garden() either", crow.status(0), 2);
        for (int what : new int[] {2, -1, Integer.MIN_VALUE}) {
            due("status(" + what + ")", crow.status(what), -1);
        }
        for (int what : new int[] {3, -1, Integer.MAX_VALUE}) {
            due("count(" + what + ")", crow.count(what), -1);
        }
        due("those are no refusals", crow.status(1), 5);
        crow.image();
        crow.work(0);
        crow.work(0);
        crow.feed(0, 0, 0, 0, 0);
        due("count", crow.count(0) * 1000 + crow.count(1) * 10 + crow.count(2), 1202);
    }

    public static void main(String[] args) {
        newObject();
        feeding();
        gardens();
        gardenFaults();
        laws();
        lawFaults();
        works();
        steps();
        lostAndGrown();
        workFaults();
        books();
        faults();
        undone();
        tellings();
        rainsAhead();
        wouldBe();
        yearsAhead();
        howManyRains();
        stuffing();
        bedSets();
        fitting();
        chances();
        sheAndTheWind();
        seeds();
        hearing();
        draining();
        summers();
        imaging();
        beginningAnew();
        edges();
        counting();
        finish();
    }
}
