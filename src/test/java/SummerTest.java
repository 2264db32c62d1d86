import java.math.BigInteger;

/** SUMMERS: GARDENS so small that what comes of them is told by the DRAWS alone, which are worked out here anew. */
public final class SummerTest extends Checks {
    private static final int[] SEEDS = {0, 1, -1, 2, 77, 12345, -12345, Integer.MAX_VALUE, Integer.MIN_VALUE, 1 << 30, 987654321};

    /** The turn-th DRAW (from 1 on) by a SEED, ahead of what is left of it. */
    private static int draw(int seed, int turn) {
        BigInteger value = BigInteger.valueOf(seed & 0xffffffffL);
        for (int i = 0; i < turn; i++) {
            value = value.multiply(BigInteger.valueOf(1103515245)).add(BigInteger.valueOf(12345)).mod(BigInteger.ONE.shiftLeft(32));
        }
        return value.shiftRight(16).mod(BigInteger.valueOf(32768)).intValue();
    }

    private static void due(LetterScarecrow crow, int seed, int q, int years, int what, int want) {
        due("summer(" + seed + ", " + q + ", " + years + ", " + what + ")", crow.summer(seed, q, years, what), want);
    }

    private static void draws() {
        sentence("the SEED (32 bits) becomes itself times 1,103,515,245, and 12,345 (it wraps); its bits 16 to 30");
        due("the first DRAW by 0", draw(0, 1), 0);
        due("the second", draw(0, 2), 21468);
        due("the first by -1", draw(-1, 1), ((12345 - 1103515245) >> 16) & 32767);
        sentence("is it below Q");
        // without READERS a DRAW for the kind and one for how much, twice a YEAR
        LetterScarecrow crow = crow("bed 0;" + "letter 0 1 2 3 4 5 6 7 8;");
        law(crow, "1");
        for (int seed : SEEDS) {
            int one = draw(seed, 1) % 16;
            int other = draw(seed, 3) % 16;
            for (int q : new int[] {0, one, one + 1, other, other + 1, 16}) {
                due(crow, seed, q, 1, 0, 8 - (one < q ? 1 : 0) - (other < q ? 1 : 0));
            }
        }
        due("nothing stays changed", crow.told(3) + crow.told(4) + crow.told(6), 0);
    }

    private static void howMuch() {
        sentence("DRAW by 20: rain of 1 more than that");
        LetterScarecrow most = crow("bed 0;letter 0 1 2;");
        law(most, "rain / 20");
        LetterScarecrow least = crow("bed 0;letter 0 1 2;");
        law(least, "1 - rain / 2");
        int least1 = 0;
        int most20 = 0;
        for (int seed = 0; seed < 120; seed++) {
            int one = draw(seed, 2) % 20;
            int other = draw(seed, 4) % 20;
            int of20 = (one == 19 ? 1 : 0) + (other == 19 ? 1 : 0);
            int of1 = (one == 0 ? 1 : 0) + (other == 0 ? 1 : 0);
            most20 += of20;
            least1 += of1;
            due(most, seed, 16, 1, 0, 2 - of20);
            due(least, seed, 16, 1, 0, 2 - of1);
        }
        due("both came", most20 > 0 && least1 > 0 ? 1 : 0, 1);
        sentence("if it is not: DRAW by 30: wind of 1 more than that (if it can be done)");
        LetterScarecrow far = crow("bed 30;letter 0 1 2;reader 0;");
        LetterScarecrow two = crow("bed 2;letter 0 1 2;reader 0;");
        LetterScarecrow near = crow("bed 1;letter 0 1 2;reader 0;");
        int heard30 = 0;
        int never2 = 0;
        for (int seed = 0; seed < 200; seed++) {
            // with a READER four DRAWS each time
            int one = draw(seed, 2) % 30;
            int other = draw(seed, 6) % 30;
            boolean hears = one == 29 || other == 29;
            boolean never = one == 0 && other == 0;
            heard30 += hears ? 1 : 0;
            never2 += one == 0 ? 1 : 0;
            due(far, seed, 0, 1, 3, hears ? 2 : 0);
            due(two, seed, 0, 1, 3, never ? 0 : 2);
            due(near, seed, 0, 1, 3, 2);
        }
        due("both came", heard30 > 0 && never2 > 0 ? 1 : 0, 1);
    }

    private static void walks() {
        sentence("then, are there READERS: DRAW by how many READERS, by how many BEDS: walk (if it can)");
        LetterScarecrow one = crow("bed 0;bed 0;letter 1 5;reader 0;");
        LetterScarecrow three = crow("bed 0;bed 0;bed 0;letter 0 0;letter 1 1;letter 2 2;reader 0;reader 1;reader 2;reader 0;reader 0;");
        for (int seed = 0; seed < 120; seed++) {
            boolean first = draw(seed, 4) % 2 == 1;
            boolean second = draw(seed, 8) % 2 == 1;
            due(one, seed, 16, 1, 3, first || second ? 32 : 0);
            int[] at = {0, 1, 2, 0, 0};
            int heard = 0;
            for (int turn = 4; turn <= 8; turn += 4) {
                int reader = draw(seed, turn - 1) % 5;
                int bed = draw(seed, turn) % 3;
                heard |= at[reader] == bed ? 0 : 1 << bed;
                at[reader] = bed;
            }
            due(three, seed, 16, 1, 3, heard);
        }
        sentence("behind the two times year");
        for (int seed = 0; seed < 20; seed++) {
            due(one, seed, 16, 1, 1, 1);
            due(one, seed, 16, 1, 2, 0);
            due(one, seed, 16, 1, 0, 0);
            due(one, seed, 0, 48, 1, 0);
        }
    }

    private static void years() {
        sentence("A SUMMER of so many YEARS (1 to 48), Q (0 to 16)");
        LetterScarecrow crow = crow("bed 0;letter 0 1 2 3 4 5 6 7 8;letter 0 1 2 3 4 5 6 7 8;");
        law(crow, "year / 47");
        work(crow, "again 5[rain 20;];");
        // in YEARS 0 to 46 nothing comes, in YEAR 47 each LETTER has one each time
        due(crow, 3, 16, 47, 0, 16);
        due(crow, 3, 16, 48, 0, 12);
        due(crow, 3, 16, 48, 2, 3);
        due(crow, 3, 16, 48, 1, 1);
        due(crow, 3, 0, 48, 0, 16);
        law(crow, "wet / 100");
        due(crow, 3, 16, 48, 0, 16);
        law(crow, "8");
        // all run out at once: 12 lie, one grows
        due(crow, 3, 16, 1, 2, 11);
        due(crow, 3, 16, 1, 1, 1);
        due(crow, 3, 16, 12, 2, 0);
        due(crow, 3, 16, 12, 1, 12);
        due(crow, 3, 16, 48, 1, 12);
        sentence("YEARS go by as by year (beyond 400, too)");
        LetterScarecrow late = crow("bed 0;letter 0 1 2 3 4 5 6 7 8;");
        for (int i = 0; i < 2; i++) {
            work(late, "again 6[again 30[year;];];again 9[year;];");
        }
        work(late, "again 22[year;];");
        due("YEAR 400", late.told(3), 400);
        law(late, "year / 447");
        due(late, 9, 16, 47, 0, 8);
        due(late, 9, 16, 48, 0, 6);
        law(late, "year / 448");
        due(late, 9, 16, 48, 0, 8);
        due("YEAR 400 still", late.told(3), 400);
        sentence("WORDS any READER heard by then (bits)");
        LetterScarecrow heard = crow("bed 0;bed 1;letter 0 0;letter 0 15;reader 0;reader 1;");
        work(heard, "wind 1;");
        due("heard ahead of it", heard.summer(1, 16, 1, 3), 1 + 32768);
        due("nobody hears", crow.summer(1, 0, 48, 3), 0);
    }

    private static void span() {
        sentence("Of so many SEEDS (1 to 10; seed, seed and 1, ..): 0 the fewest WORDS left of all LETTERS then, 1 the most");
        LetterScarecrow crow = crow("bed 0;bed 0;letter 0 1 2 3 4 5 6 7 8;");
        law(crow, "1");
        for (int seed : new int[] {0, 5, -3, Integer.MAX_VALUE, Integer.MAX_VALUE - 4, Integer.MIN_VALUE}) {
            for (int many : new int[] {1, 2, 10}) {
                int fewest = 8;
                int most = 0;
                int having = 0;
                for (int i = 0; i < many; i++) {
                    int rains = (draw(seed + i, 1) % 16 < 6 ? 1 : 0) + (draw(seed + i, 3) % 16 < 6 ? 1 : 0);
                    fewest = Math.min(fewest, 8 - rains);
                    most = Math.max(most, 8 - rains);
                    // one of two that lie grows
                    having += rains == 2 ? 1 : 0;
                }
                String call = "span(" + seed + ", " + many + ", 6, 1, ";
                due(call + "0, 0)", crow.span(seed, many, 6, 1, 0, 0), fewest);
                due(call + "1, 0)", crow.span(seed, many, 6, 1, 1, 0), most);
                due(call + "0, 1)", crow.span(seed, many, 6, 1, 0, 1), fewest);
                due(call + "2, 0)", crow.span(seed, many, 6, 1, 2, 0), having);
                due(call + "2, 1)", crow.span(seed, many, 6, 1, 2, 1), 0);
            }
        }
        due("all of ten", crow.span(1, 10, 16, 1, 2, 0), 10);
        due("none of ten", crow.span(1, 10, 0, 1, 2, 0), 0);
        due("of 48 YEARS none is left", crow.span(1, 10, 16, 48, 1, 0), 0);
        due("of 48 YEARS all are left", crow.span(1, 10, 0, 48, 0, 0), 8);
        due("nothing stays changed", crow.told(3) + crow.told(6), 0);
        sentence("(IllegalArgumentException: no such BED, also for 0, 1.)");
        for (int what = 0; what <= 2; what++) {
            int asked = what;
            misused("BED 2", () -> crow.span(1, 1, 1, 1, asked, 2));
            misused("BED -1", () -> crow.span(1, 1, 1, 1, asked, -1));
            misused("BED 0 of none", () -> crow("").span(1, 1, 1, 1, asked, 0));
        }
        due("no NoSuchElementException", crow.status(0) * 10 + crow.status(1), 6);
        LetterScarecrow full = crow("bed 0;" + "letter 0 1 2 3 4 5 6 7 8;".repeat(6));
        due("48 are left", full.span(1, 1, 0, 1, 0, 0), 48);
        due("48 are left at the most", full.span(1, 10, 0, 1, 1, 0), 48);
    }

    public static void main(String[] args) {
        draws();
        howMuch();
        walks();
        years();
        span();
        finish();
    }
}
