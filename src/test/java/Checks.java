import java.util.NoSuchElementException;

/** What the tests by hand share: telling texts, and holding answers against those that are due. */
abstract class Checks {
    private static int wrong = 0;
    private static int checks = 0;
    private static String sentence = "";

    interface Call {
        long answer();
    }

    /** The words of the document that the checks from here on hold to. */
    static void sentence(String words) {
        sentence = "\n    by: " + words;
    }

    private static void missed(String text) {
        wrong++;
        System.out.println(text + sentence);
    }

    static void due(String what, long got, long want) {
        checks++;
        if (got != want) {
            missed(what + " answered " + got + ", due is " + want);
        }
    }

    static void due(String what, String got, String want) {
        checks++;
        if (!got.equals(want)) {
            missed(what + ": " + got + ", due is " + want);
        }
    }

    static String outcome(Call call) {
        try {
            return "answered " + call.answer();
        } catch (RuntimeException e) {
            boolean known = e.getClass() == NoSuchElementException.class || e.getClass() == IllegalArgumentException.class;
            return known ? e.getClass().getSimpleName() : e.toString();
        }
    }

    static void misused(String what, Call call) {
        due(what, outcome(call), "IllegalArgumentException");
    }

    static void missing(String what, Call call) {
        due(what, outcome(call), "NoSuchElementException");
    }

    /** Feeds the text, and answers how many bytes it has. */
    static int fed(LetterScarecrow crow, String text) {
        for (int at = 0; at < text.length(); at += 20) {
            int[] five = new int[5];
            for (int i = 0; i < 20; i++) {
                int sign = at + i < text.length() ? text.charAt(at + i) : '?';
                five[i / 4] = five[i / 4] << 8 | sign;
            }
            crow.feed(five[0], five[1], five[2], five[3], five[4]);
        }
        return text.length();
    }

    static LetterScarecrow crow(String garden) {
        LetterScarecrow crow = new LetterScarecrow();
        due("no FAULT in " + garden, garden(crow, garden) < 0 ? 1 : 0, 0);
        return crow;
    }

    static int garden(LetterScarecrow crow, String text) {
        return crow.garden(fed(crow, text));
    }

    static int law(LetterScarecrow crow, String text) {
        return crow.law(fed(crow, text));
    }

    static int work(LetterScarecrow crow, String text) {
        return crow.work(fed(crow, text));
    }

    static int book(LetterScarecrow crow, String text) {
        return crow.book(fed(crow, text));
    }

    /** All that WORK changes, as far as it can be asked. */
    static long fingerprint(LetterScarecrow crow) {
        long sum = 7;
        for (int what = 0; what <= 8; what++) {
            sum = sum * 31 + crow.told(what);
        }
        for (int letter = 0; letter < crow.told(1); letter++) {
            sum = sum * 31 + crow.letter(letter, 2) * 2 + crow.letter(letter, 4);
        }
        for (int bed = 0; bed < crow.told(0); bed++) {
            for (int k = 0; k <= crow.bed(bed, 1); k++) {
                sum = sum * 31 + crow.lies(bed, k);
            }
        }
        for (int reader = 0; reader < crow.told(2); reader++) {
            sum = sum * 31 + crow.reader(reader, 0) * 65536 + crow.reader(reader, 1);
        }
        for (int k = 0; k <= crow.told(11); k++) {
            sum = sum * 31 + crow.grown(k);
        }
        return sum;
    }

    /** Tells how many answers were looked at, and ends the test: with 1, if one was not as due. */
    static void finish() {
        System.out.println(checks + " answers looked at, " + wrong + " not as due");
        System.exit(wrong == 0 ? 0 : 1);
    }
}
