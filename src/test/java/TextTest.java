/** Texts: each sentence of the document that names a bound of a text, a number or a FAULT, on both sides of it. */
public final class TextTest extends Checks {
    private static final String BEDS = "bed 0;bed 10;bed 30;";
    private static final String SOME = BEDS + "letter 0 1 2 3;letter 2 4 5;reader 0;reader 2;";

    private static final int GARDEN = 0;
    private static final int LAW = 1;
    private static final int WORK = 2;
    private static final int BOOK = 3;

    private static int tell(LetterScarecrow crow, int sort, String text) {
        switch (sort) {
            case GARDEN: return garden(crow, text);
            case LAW: return law(crow, text);
            case WORK: return work(crow, text);
            default: return book(crow, text);
        }
    }

    /** The text has no FAULT: what it answers. */
    private static void fine(int sort, String text, int want) {
        LetterScarecrow crow = crow(SOME);
        due("\"" + text + "\"", tell(crow, sort, text), want);
        due("fault() behind \"" + text + "\"", crow.fault(), -1);
        due("TAPE behind \"" + text + "\"", crow.count(1), 0);
    }

    /** The text has that FAULT there, and all stays as it is. */
    private static void wrong(int sort, String text, int kind, int place) {
        LetterScarecrow crow = crow(SOME);
        law(crow, "7");
        book(crow, "1 16;");
        work(crow, "rain 1;walk 0 0;");
        long before = fingerprint(crow);
        due("\"" + text + "\"", tell(crow, sort, text), kind - 10);
        due("fault() behind \"" + text + "\"", crow.fault(), place);
        due("TAPE behind \"" + text + "\"", crow.count(1), 0);
        due("all stays behind \"" + text + "\"", fingerprint(crow), before);
        due("the LAW stays behind \"" + text + "\"", crow.would(0, 0, 0, 0, 0, 0, 0), 7);
        due("the BOOK stays behind \"" + text + "\"", crow.told(9), 1);
        due("REFUSED stays behind \"" + text + "\"", crow.told(10), 1);
        due("what can be undone stays behind \"" + text + "\"", crow.count(2), 1);
    }

    private static String blanks(int many) {
        return " ".repeat(many);
    }

    private static void lengths() {
        sentence("A GARDEN is a text of up to 600 bytes");
        String head = "bed 7;letter 0 3;";
        fine(GARDEN, head + blanks(600 - head.length() - 9) + "reader 0;", 1);
        LetterScarecrow crow = crow("");
        fed(crow, head + blanks(583));
        misused("garden(601)", () -> crow.garden(601));
        due("the TAPE stays", crow.count(1), 600);
        due("garden(600)", crow.garden(600), 1);
        wrong(GARDEN, blanks(599) + ";", 1, 599);
        wrong(GARDEN, blanks(597) + "bed", 1, 600);
        fine(GARDEN, "", 0);
        fine(GARDEN, blanks(600), 0);

        sentence("A LAW is a text of up to 150 bytes");
        fine(LAW, "0+".repeat(74) + "07", 1);
        wrong(LAW, "0+".repeat(75), 1, 150);
        lawIs("0+".repeat(74) + "07", 7);
        lawIs("1-" + "0-".repeat(73) + "00", 1);
        lawIs("1*".repeat(74) + "07", 7);
        lawIs("7/" + "1/".repeat(73) + "01", 7);
        lawIs("1+".repeat(3) + "0+".repeat(70) + "0001", 4);
        longest(LAW, "0+".repeat(74) + "07", 150, 1);
        wrong(LAW, "", 1, 0);

        sentence("WORK is a text of up to 150 bytes");
        longest(WORK, "year;".repeat(30), 150, 30);
        wrong(WORK, "year;".repeat(29) + "year ", 1, 150);
        fine(WORK, "", 0);
        fine(WORK, blanks(150), 0);

        sentence("A BOOK is one of up to 60 bytes");
        longest(BOOK, "0 1;1 2;" + blanks(48) + "2 3;", 60, 3);
        wrong(BOOK, blanks(59) + "2", 1, 60);
        fine(BOOK, "", 0);
        fine(BOOK, blanks(60), 0);
    }

    /** The text is as long as can be; of one byte more none is read, and the TAPE stays. */
    private static void longest(int sort, String text, int most, int want) {
        LetterScarecrow crow = crow(SOME);
        due("how long \"" + text + "\" is", fed(crow, text + "?"), most + 1);
        int held = crow.count(1);
        misused("one byte more than " + most, () -> readBy(crow, sort, most + 1));
        due("the TAPE stays", crow.count(1), held);
        due("just " + most + " bytes", readBy(crow, sort, most), want);
        due("the TAPE is empty", crow.count(1), 0);
        fed(crow, blanks(20));
        misused("more than the TAPE has", () -> readBy(crow, sort, 21));
        misused("fewer than none", () -> readBy(crow, sort, -1));
        misused("the fewest of all", () -> readBy(crow, sort, Integer.MIN_VALUE));
        misused("the most of all", () -> readBy(crow, sort, Integer.MAX_VALUE));
        due("the TAPE stays", crow.count(1), 20);
        due("none of 20 bytes", readBy(crow, sort, 0), sort == LAW ? -9 : 0);
        due("the TAPE is empty then, too", crow.count(1), 0);
    }

    private static int readBy(LetterScarecrow crow, int sort, int n) {
        return sort == LAW ? crow.law(n) : sort == WORK ? crow.work(n) : sort == BOOK ? crow.book(n) : crow.garden(n);
    }

    private static void clauses() {
        sentence("\"bed\" F (BEDS, numbered from 0 on, 6 at most: FAR F, 0 to 30)");
        LetterScarecrow crow = crow("bed 0;bed 30;bed 1;bed 29;bed 5;bed 17;");
        int[] far = {0, 30, 1, 29, 5, 17};
        for (int bed = 0; bed < 6; bed++) {
            due("F of BED " + bed, crow.bed(bed, 0), far[bed]);
        }
        due("BEDS", crow.told(0), 6);
        wrong(GARDEN, "bed 31;", 2, 4);
        wrong(GARDEN, "bed 0;".repeat(6) + "bed 0;", 3, 36);
        wrong(GARDEN, "bed 0;".repeat(6) + "  bed 31;", 3, 38);
        wrong(GARDEN, "bed;", 1, 3);

        sentence("\"letter\" B W { W } (LETTERS likewise, 6: drains to BED B, told ahead; 1 to 8 WORDS, 0 to 15 each)");
        LetterScarecrow letters = crow("bed 1;bed 2;" + "letter 1 0;".repeat(5) + "letter 0 15 0 15 0 15 0 15 0;");
        due("LETTERS", letters.told(1), 6);
        due("one WORD", letters.letter(4, 1), 1);
        due("the least WORD", letters.word(4, 0), 0);
        due("eight WORDS", letters.letter(5, 1), 8);
        due("the greatest WORD", letters.word(5, 6), 15);
        due("the first BED", letters.letter(5, 0), 0);
        due("the last BED told", letters.letter(0, 0), 1);
        wrong(GARDEN, "bed 0;bed 0;letter 2 1;", 2, 19);
        wrong(GARDEN, "letter 0 1;bed 0;", 2, 7);
        wrong(GARDEN, "bed 0;letter 1 1;bed 0;", 2, 13);
        wrong(GARDEN, "bed 0;letter 0;", 1, 14);
        wrong(GARDEN, "bed 0;letter 0 16;", 2, 15);
        wrong(GARDEN, "bed 0;letter 0 1 2 3 4 5 6 7 16;", 2, 29);
        wrong(GARDEN, "bed 0;letter 0 0 0 0 0 0 0 0 0 0;", 3, 31);
        wrong(GARDEN, "bed 0;" + "letter 0 1;".repeat(6) + "letter 0 1;", 3, 72);
        wrong(GARDEN, "bed 0;letter;", 1, 12);

        sentence("\"reader\" B (READERS likewise, 5: at BED B, told ahead)");
        LetterScarecrow readers = crow("bed 1;bed 2;" + "reader 1;".repeat(4) + "reader 0;");
        due("READERS", readers.told(2), 5);
        due("the last BED told", readers.reader(0, 0), 1);
        due("the first BED", readers.reader(4, 0), 0);
        wrong(GARDEN, "bed 0;reader 1;bed 0;", 2, 13);
        wrong(GARDEN, "reader 0;bed 0;", 2, 7);
        wrong(GARDEN, "bed 0;" + "reader 0;".repeat(5) + "reader 0;", 3, 51);

        sentence("{ CLAUSE \";\" }, at most 60");
        String most = "bed 0;".repeat(6) + "letter 5 1;".repeat(6) + "reader 5;".repeat(5);
        fine(GARDEN, most, 6);
        // no CLAUSE is left that could be an 18th one, so that 60 are never reached
        wrong(GARDEN, most + "bed 0;", 3, most.length());
        wrong(GARDEN, most + "letter 0 1;", 3, most.length());
        wrong(GARDEN, most + "reader 0;", 3, most.length());
        wrong(GARDEN, "bed 0;;", 1, 6);
        wrong(GARDEN, "bed 0", 1, 5);
    }

    private static void lawIs(String text, int want) {
        LetterScarecrow crow = crow("");
        due("law \"" + text + "\"", law(crow, text), 1);
        due("would by \"" + text + "\"", crow.would(0, 0, 0, 0, 0, 0, 0), want);
    }

    private static void numbersOfLaws() {
        sentence("E, at the end nothing more");
        wrong(LAW, "7 7", 1, 2);
        wrong(LAW, "7;", 1, 1);
        wrong(LAW, "7)", 1, 1);
        wrong(LAW, "rain wet", 1, 5);
        sentence("RUN: what comes out, 0 at least, 8 at most");
        lawIs("0", 0);
        lawIs("0-1", 0);
        lawIs("0-999*999", 0);
        lawIs("1", 1);
        lawIs("8", 8);
        lawIs("9", 8);
        lawIs("999*999", 8);
        sentence("U: N (0 to 999)");
        lawIs("999-991", 8);
        lawIs("0+0", 0);
        wrong(LAW, "1000", 2, 0);
        wrong(LAW, "1+1000", 2, 2);
    }

    private static void bounds() {
        sentence("Values are whole numbers of 32 bits that wrap");
        lawIs("999*999*999*2", 8);
        lawIs("999*999*999*3", 0);
        lawIs("999*999*999*2+999*999*999", 0);
        lawIs("0-999*999*999*2-999*999*999", 8);
        lawIs("512*512*512*16-1", 8);
        lawIs("0-512*512*512*16", 0);
        lawIs("most[512*512*512*16, 0-5]+7", 2);
        lawIs("least[512*512*512*16, 0-5]-1", 8);
        sentence("/ cuts, % leaves (with the sign of what is divided), by 0 both are 0");
        lawIs("7/2", 3);
        lawIs("5+(0-7)/2", 2);
        lawIs("5+7/(0-2)", 2);
        lawIs("(0-7)/(0-2)", 3);
        lawIs("7%4", 3);
        lawIs("5+(0-7)%4", 2);
        lawIs("5+7%(0-4)", 8);
        lawIs("5+(0-7)%(0-4)", 2);
        lawIs("5+7/0", 5);
        lawIs("5+7%0", 5);
        lawIs("5+(0-7)/(3-3)", 5);
        lawIs("5+(0-7)%(3-3)", 5);
        lawIs("5+0/0", 5);
        lawIs("5+0%0", 5);
        lawIs("(512*512*512*16)/(0-1)/512/512/512+20", 4);
        lawIs("5+(512*512*512*16)%(0-1)", 5);
        sentence("\"least\" \"[\" E \",\" E \"]\", \"most\" \"[\" E \",\" E \"]\"");
        lawIs("least[3,4]", 3);
        lawIs("least[4,3]", 3);
        lawIs("least[4,4]", 4);
        lawIs("most[3,4]", 4);
        lawIs("most[4,3]", 4);
        lawIs("most[4,4]", 4);
        wrong(LAW, "least[3]", 1, 7);
        wrong(LAW, "least[1 2]", 1, 8);
        wrong(LAW, "most[1(2)]", 1, 6);
        wrong(LAW, "most[1,2", 1, 8);
        wrong(LAW, "most[1,2)", 1, 8);
        wrong(LAW, "most 1,2", 1, 5);
        wrong(LAW, "(1,2)", 1, 2);
        wrong(LAW, "(1]", 1, 2);
        wrong(LAW, "most[3,4,5]", 1, 8);
        wrong(LAW, "least[,4]", 1, 6);
        wrong(LAW, "most[3,]", 1, 7);
        wrong(LAW, "least 3,4]", 1, 6);
        sentence("E: T { + or - T }. T: U { * or / or % U }");
        lawIs("9-3-2", 4);
        lawIs("9-3+2", 8);
        lawIs("2+3*2", 8);
        lawIs("64/4*2%5", 2);
        lawIs("8-64/16/2", 6);
        wrong(LAW, "+1", 1, 0);
        wrong(LAW, "1-", 1, 2);
        wrong(LAW, "1*", 1, 2);
        wrong(LAW, "1+*2", 1, 2);
        wrong(LAW, "1--2", 1, 2);
    }

    private static void steps() {
        sentence("\"wind\" N (1 to 30)");
        fine(WORK, "wind 1;wind 30;", 2);
        wrong(WORK, "wind 0;", 2, 5);
        wrong(WORK, "wind 31;", 2, 5);
        wrong(WORK, "wind;", 1, 4);
        sentence("\"rain\" N (1 to 20)");
        fine(WORK, "rain 1;rain 20;", 2);
        wrong(WORK, "rain 0;", 2, 5);
        wrong(WORK, "rain 21;", 2, 5);
        wrong(WORK, "rain;", 1, 4);
        sentence("\"tie\" L");
        fine(WORK, "tie 0;tie 1;", 2);
        wrong(WORK, "tie 2;", 2, 4);
        wrong(WORK, "tie;", 1, 3);
        sentence("\"walk\" R B");
        fine(WORK, "walk 0 2;walk 1 0;", 2);
        wrong(WORK, "walk 2 0;", 2, 5);
        wrong(WORK, "walk 0 3;", 2, 7);
        wrong(WORK, "walk 2 3;", 2, 5);
        wrong(WORK, "walk 0;", 1, 6);
        wrong(WORK, "walk;", 1, 4);
        sentence("\"eat\" B");
        fine(WORK, "rain 1;eat 0;eat 2;", 3);
        wrong(WORK, "eat 3;", 2, 4);
        wrong(WORK, "eat;", 1, 3);
        sentence("\"year\"");
        wrong(WORK, "year 1;", 1, 5);
        sentence("\"again\" N \"[\" { STEP \";\" } \"]\" (N 0 to 30)");
        fine(WORK, "again 0[year;];", 0);
        fine(WORK, "again 1[year;];", 1);
        fine(WORK, "again 30[year;];", 30);
        fine(WORK, "again 30[];", 0);
        wrong(WORK, "again 31[year;];", 2, 6);
        wrong(WORK, "again[];", 1, 5);
        wrong(WORK, "again 1[year;]", 1, 14);
        wrong(WORK, "again 1[year];", 1, 12);
        wrong(WORK, "again 1[year;;", 1, 13);
        wrong(WORK, "again 1 year;", 1, 8);
        wrong(WORK, "year;];", 1, 5);
        sentence("of a GARDEN without LETTERS, READERS or BEDS no number is one");
        for (String text : new String[] {"tie 0;", "walk 0 0;", "eat 0;"}) {
            LetterScarecrow bare = crow("");
            due("work " + text, work(bare, text), -8);
            due("its place", bare.fault(), text.indexOf('0'));
        }
    }

    private static void lines() {
        sentence("{ B W \";\" }, no B twice: in BED B WORD W lies last (0 to 15), or none lies there (16)");
        fine(BOOK, "0 0;2 15;1 16;", 3);
        wrong(BOOK, "0 17;", 2, 2);
        wrong(BOOK, "3 0;", 2, 0);
        wrong(BOOK, "0 1;0 1;", 2, 4);
        wrong(BOOK, "2 16;0 1; 2 16;", 2, 10);
        wrong(BOOK, "0;", 1, 1);
        wrong(BOOK, "0 1 2;", 1, 4);
        wrong(BOOK, ";", 1, 0);
        LetterScarecrow bare = crow("");
        due("a line of no BED", book(bare, "0 16;"), -8);
    }

    private static void signs() {
        sentence("Numbers: digits, as many as stand there");
        fine(GARDEN, "bed 000000000000000000000000000030;", 0);
        fine(GARDEN, "bed3;letter0 1;reader0;", 1);
        wrong(GARDEN, "bed 3 0;", 1, 6);
        wrong(GARDEN, "bed 300;", 2, 4);
        // those would be 0 to 30 again, if they wrapped
        wrong(GARDEN, "bed 4294967296;", 2, 4);
        wrong(GARDEN, "bed 18446744073709551616;", 2, 4);
        wrong(GARDEN, "bed -1;", 1, 4);
        wrong(LAW, "4294967297", 2, 0);
        wrong(LAW, "1 0", 1, 2);
        fine(WORK, "again2[year;];again 00[];", 2);
        sentence("small letters of words likewise");
        wrong(GARDEN, "bedbed 0;", 1, 0);
        wrong(GARDEN, "be d 0;", 1, 0);
        wrong(GARDEN, "be", 1, 0);
        wrong(GARDEN, "BED 0;", 1, 0);
        wrong(GARDEN, "bedX 0;", 1, 3);
        wrong(GARDEN, "readers 0;", 1, 0);
        wrong(GARDEN, "year;", 1, 0);
        wrong(LAW, "rainwet", 1, 0);
        wrong(LAW, "lefty", 1, 0);
        wrong(LAW, "leasta[1,2]", 1, 0);
        wrong(LAW, "letters", 1, 0);
        wrong(LAW, "wind", 1, 0);
        wrong(WORK, "yearyear;", 1, 0);
        wrong(WORK, "ties 0;", 1, 0);
        wrong(WORK, "letter 0;", 1, 0);
        lawIs("7+0*rain%8", 7);
        sentence("blanks (32) may stand ahead of all these, and at the end");
        fine(GARDEN, "  bed  3  ;  letter  0  1  2  ;  reader  0  ;  ", 1);
        fine(LAW, "  (  least  [  rain  +  1  ,  wet  ]  )  *  2  ", 1);
        fine(WORK, "  again  2  [  year  ;  ]  ;  walk  0  1  ;  ", 3);
        fine(BOOK, "  0  1  ;  1  16  ;  ", 2);
        wrong(GARDEN, "bed" + (char) 9 + "3;", 1, 3);
        wrong(GARDEN, "bed 3;" + (char) 10, 1, 6);
        wrong(GARDEN, (char) 0 + "bed 3;", 1, 0);
        wrong(GARDEN, "bed 3" + (char) 160 + ";", 1, 5);
        wrong(LAW, "1" + (char) 255, 1, 1);
        wrong(WORK, "year" + (char) 31 + ";", 1, 4);
    }

    private static void faultPlaces() {
        sentence("FAULTS, the first from the left, at its first byte");
        wrong(GARDEN, "bed 31;x", 2, 4);
        wrong(GARDEN, "x;bed 31;", 1, 0);
        wrong(GARDEN, "bed    31x", 2, 7);
        wrong(GARDEN, "bed 0;letter 0 16 x", 2, 15);
        wrong(LAW, "1 + 1000 +", 2, 4);
        wrong(WORK, "year;  again 31", 2, 13);
        wrong(BOOK, "0 17;0 1;", 2, 2);
        sentence("1 what can't stand there (at the length, if the text ends too early)");
        wrong(GARDEN, "bed 1  ", 1, 7);
        wrong(GARDEN, "bed", 1, 3);
        wrong(GARDEN, "bed 0;letter 0 1 2 3 4 5 6 7 8", 1, 30);
        wrong(LAW, "   ", 1, 3);
        wrong(LAW, "(1", 1, 2);
        wrong(WORK, "again 1[", 1, 8);
        wrong(WORK, "walk 0", 1, 6);
        wrong(BOOK, "0", 1, 1);
        LetterScarecrow cut = crow("");
        fed(cut, "bed 1;");
        due("a text ends at n, not where the TAPE does", cut.garden(4), -9);
        due("at the length", cut.fault(), 4);
        fed(cut, "bed 12;");
        due("of a number likewise", cut.garden(5) * 100 + cut.fault(), -895);
        fed(cut, "beds");
        due("of a word likewise", cut.garden(3) * 100 + cut.fault(), -897);
        sentence("3 a CLAUSE, BED, LETTER or READER too many, a 9th WORD of a LETTER (at it)");
        wrong(GARDEN, "bed 0;letter 0 1 2 3 4 5 6 7 8   9", 3, 33);
        wrong(GARDEN, "bed 0;letter 0 1 2 3 4 5 6 7 8 9 16;", 3, 31);
        sentence("or a 7th of ( least most again that is open at one time");
        fine(LAW, "((((((1))))))", 1);
        fine(LAW, "((((((1))))))+((((((1))))))", 1);
        fine(LAW, "least[((((( 1 ))))),((((( 1 )))))]", 1);
        wrong(LAW, "(((((((1)))))))", 3, 6);
        wrong(LAW, "least[1,(((((( 1 ))))))]", 3, 13);
        wrong(LAW, "most[most[most[most[most[most[1,most[1,1]],1],1],1],1],1]", 3, 32);
        wrong(LAW, "((((((  least[1,1]))))))", 3, 8);
        wrong(LAW, "((((((1+most", 3, 8);
        fine(LAW, "most[most[most[most[most[most[1,2],1],1],1],1],1]", 1);
        String six = "again 1[".repeat(6) + "year;" + "];".repeat(6);
        fine(WORK, six, 1);
        fine(WORK, six + six, 2);
        wrong(WORK, "again 1[".repeat(6) + " again 1[];", 3, 49);
        wrong(WORK, "again 1[".repeat(5) + "again 1[];again 1[again", 3, 58);
        sentence("of one the least");
        wrong(GARDEN, "bed 0;letter 0 1 2 3 4 5 6 7 8 16;", 2, 31);
        wrong(GARDEN, "bed 0;".repeat(5) + "bed 0 bed 0;", 1, 36);
        // longer words are others: what can't stand there, not one too many
        wrong(GARDEN, "bed 0;".repeat(6) + "beds 0;", 1, 36);
        wrong(GARDEN, "bed 0;" + "letter 0 1;".repeat(6) + "letters 0 1;", 1, 72);
        wrong(GARDEN, "bed 0;" + "reader 0;".repeat(5) + "readers 0;", 1, 51);
        wrong(LAW, "((((((leasts[1,2]))))))", 1, 6);
        wrong(LAW, "((((((mosta[1,2]))))))", 1, 6);
        wrong(WORK, "again 1[".repeat(6) + "againz 1[];", 1, 48);
        wrong(LAW, "((((((1(1", 1, 7);
        wrong(LAW, "((((((1 least", 1, 8);
        wrong(WORK, "again 1[".repeat(6) + "year again", 1, 53);
    }

    public static void main(String[] args) {
        lengths();
        clauses();
        numbersOfLaws();
        bounds();
        steps();
        lines();
        signs();
        faultPlaces();
        finish();
    }
}
