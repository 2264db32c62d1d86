import java.util.ArrayList;
import java.util.List;

/** Each number that a call takes: its least and greatest are fine, what lies beyond is refused, and nothing else. */
public final class BoundsTest extends Checks {
    private static final int ANY_LEAST = Integer.MIN_VALUE;
    private static final int ANY_MOST = Integer.MAX_VALUE;

    private interface Ask {
        long of(LetterScarecrow crow, int[] x);
    }

    /** A number that a call takes; place: it names a LETTER, BED or READER, and NoSuchElementException is due beyond. */
    private record Bound(int least, int most, boolean place) {
    }

    private record Face(String name, Ask ask, Bound[] bounds) {
    }

    private static Bound from(int least, int most) {
        return new Bound(least, most, false);
    }

    private static Bound place(int many) {
        return new Bound(0, many - 1, true);
    }

    private static final Bound ANY = from(ANY_LEAST, ANY_MOST);

    private static final List<Face> FACES = new ArrayList<>();

    private static void face(String name, Ask ask, Bound... bounds) {
        FACES.add(new Face(name, ask, bounds));
    }

    /** All that is asked, for a GARDEN of so many; letters of three WORDS each. */
    private static void faces(int beds, int letters, int readers) {
        FACES.clear();
        face("told", (c, x) -> c.told(x[0]), from(0, 11));
        face("letter", (c, x) -> c.letter(x[0], x[1]), place(letters), from(0, 4));
        face("word", (c, x) -> c.word(x[0], x[1]), place(letters), from(0, 2));
        face("bed", (c, x) -> c.bed(x[0], x[1]), place(beds), from(0, 4));
        face("lies", (c, x) -> c.lies(x[0], x[1]), place(beds), from(0, ANY_MOST));
        face("reader", (c, x) -> c.reader(x[0], x[1]), place(readers), from(0, 1));
        face("grown", (c, x) -> c.grown(x[0]), from(0, ANY_MOST));
        face("runs", (c, x) -> c.runs(x[0], x[1]), place(letters), from(1, 20));
        face("would", (c, x) -> c.would(x[0], x[1], x[2], x[3], x[4], x[5], x[6]),
            from(0, 20), from(0, 99), from(0, 8), from(0, 30), from(0, 12), from(0, 400), from(0, 5));
        face("ahead", (c, x) -> c.ahead(x[0], x[1]), from(0, 99), from(0, 2));
        face("rains", (c, x) -> c.rains(x[0], x[1], x[2]), place(beds), from(0, 15), from(1, 20));
        face("stuff", (c, x) -> c.stuff());
        face("stuffed", (c, x) -> c.stuffed(x[0]), from(0, ANY_MOST));
        face("all", (c, x) -> c.all(x[0]), from(0, 65535));
        face("tour", (c, x) -> c.tour(x[0]), place(readers));
        face("fits", (c, x) -> c.fits(x[0]), from(0, 1));
        face("look", (c, x) -> c.look(x[0]), from(0, 1));
        face("pods", (c, x) -> c.pods(x[0], x[1], x[2], x[3]), from(0, 12), from(0, 13), from(0, 16), from(0, 1));
        face("she", (c, x) -> c.she(x[0], x[1], x[2]), from(0, 99), from(0, 99), from(0, 2));
        face("seed", (c, x) -> c.seed(x[0], x[1], x[2]), place(beds), from(0, (1 << beds) - 1), from(0, 99));
        face("often", (c, x) -> c.often(x[0]), from(0, 1));
        face("hearers", (c, x) -> c.hearers(x[0]), from(0, 15));
        face("news", (c, x) -> c.news(x[0], x[1]), place(readers), from(1, 30));
        face("full", (c, x) -> c.full(x[0]), from(0, 1));
        face("drains", (c, x) -> c.drains(x[0]), place(beds));
        face("unread", (c, x) -> c.unread(x[0]), place(readers));
        face("coming", (c, x) -> c.coming(x[0], x[1]), place(beds), from(0, 1));
        face("shared", (c, x) -> c.shared(x[0], x[1]), place(readers), place(readers));
        face("summer", (c, x) -> c.summer(x[0], x[1], x[2], x[3]), ANY, from(0, 16), from(1, 48), from(0, 3));
        face("span", (c, x) -> c.span(x[0], x[1], x[2], x[3], x[4], x[5]),
            ANY, from(1, 10), from(0, 16), from(1, 48), from(0, 2), from(0, beds - 1));
        face("fault", (c, x) -> c.fault());
        face("status", (c, x) -> c.status(x[0]), ANY);
        face("count", (c, x) -> c.count(x[0]), ANY);
    }

    private static LetterScarecrow garden(int beds, int letters, int readers) {
        LetterScarecrow crow = crow("bed 4;".repeat(beds) + ("letter " + (beds - 1) + " 1 2 3;").repeat(letters) + "reader 0;".repeat(readers));
        law(crow, "2");
        if (beds > 0) {
            book(crow, "0 16;");
        }
        work(crow, "rain 1;wind 30;wind 30;");
        work(crow, "year;");
        crow.undo();
        work(crow, "year;");
        crow.image();
        law(crow, "1+");
        fed(crow, "left on the TAPE");
        return crow;
    }

    /** All that could be changed by a call, but for status. */
    private static String state(LetterScarecrow crow) {
        return fingerprint(crow) + " " + crow.fault() + " " + crow.count(0) + " " + crow.count(1) + " " + crow.count(2)
            + " " + crow.told(9) + " " + crow.told(10) + " " + crow.would(9, 9, 1, 1, 1, 1, 1) + " " + crow.fits(0);
    }

    private static int[] leasts(Face face) {
        int[] x = new int[face.bounds.length];
        for (int i = 0; i < x.length; i++) {
            x[i] = face.bounds[i] == ANY ? 7 : face.bounds[i].least;
        }
        return x;
    }

    private static String told(Face face, int[] x) {
        StringBuilder text = new StringBuilder(face.name).append("(");
        for (int i = 0; i < x.length; i++) {
            text.append(i == 0 ? "" : ", ").append(x[i]);
        }
        return text.append(")").toString();
    }

    /** What is due: the exception's name, or "answered". */
    private static String dueFor(Face face, int[] x) {
        String want = "answered";
        for (int i = 0; i < x.length; i++) {
            Bound bound = face.bounds[i];
            if (x[i] < bound.least || x[i] > bound.most) {
                if (bound.place) {
                    return "NoSuchElementException";
                }
                want = "IllegalArgumentException";
            }
        }
        return want;
    }

    private static void hold(LetterScarecrow crow, Face face, int[] x) {
        int[] counts = {crow.status(0), crow.status(1)};
        String want = dueFor(face, x);
        String got = outcome(() -> face.ask.of(crow, x));
        due(told(face, x), got.startsWith("answered") ? "answered" : got, want);
        due("status(0) behind " + told(face, x), crow.status(0) - counts[0], want.startsWith("No") ? 1 : 0);
        due("status(1) behind " + told(face, x), crow.status(1) - counts[1], want.startsWith("Il") ? 1 : 0);
    }

    private static int[] valuesOf(Bound bound) {
        if (bound == ANY) {
            return new int[] {ANY_LEAST, -1, 0, 1, ANY_MOST};
        }
        return bound.most == ANY_MOST ? new int[] {ANY_LEAST, -1, 0, 1, 100000, ANY_MOST}
            : new int[] {ANY_LEAST, bound.least - 1, bound.least, bound.most, bound.most + 1, ANY_MOST};
    }

    /** Each number in its turn at each of its edges, the others being fine if any are. */
    private static void eachAlone(int beds, int letters, int readers) {
        faces(beds, letters, readers);
        for (Face face : FACES) {
            hold(garden(beds, letters, readers), face, leasts(face));
            for (int i = 0; i < face.bounds.length; i++) {
                LetterScarecrow crow = garden(beds, letters, readers);
                String before = state(crow);
                for (int value : valuesOf(face.bounds[i])) {
                    int[] x = leasts(face);
                    x[i] = value;
                    hold(crow, face, x);
                }
                due("nothing is changed by " + face.name, state(crow), before);
            }
        }
    }

    /** All numbers at edges at once: no such LETTER, BED or READER goes ahead of others. */
    private static void together(int beds, int letters, int readers) {
        faces(beds, letters, readers);
        for (Face face : FACES) {
            for (int choice = 0; choice < 1 << face.bounds.length; choice++) {
                int[] x = leasts(face);
                for (int i = 0; i < x.length; i++) {
                    Bound bound = face.bounds[i];
                    int beyond = i % 2 == 0 || bound.most == ANY_MOST ? bound.least - 1 : bound.most + 1;
                    x[i] = bound == ANY ? choice : (choice >> i & 1) == 1 ? beyond : bound.most;
                }
                hold(garden(beds, letters, readers), face, x);
            }
        }
    }

    /** The four calls that read a text: n is 0 to the TAPE's bytes, and no more than the text may have. */
    private static void texts() {
        sentence("IllegalArgumentException: n is not 0 to the TAPE's bytes (it stays)");
        FACES.clear();
        for (int tape : new int[] {0, 20, 40, 60, 80, 140, 160, 580, 600}) {
            textCall("garden", (c, x) -> c.garden(x[0]), tape, 600);
            textCall("law", (c, x) -> c.law(x[0]), tape, 150);
            textCall("work", (c, x) -> c.work(x[0]), tape, 150);
            textCall("book", (c, x) -> c.book(x[0]), tape, 60);
        }
    }

    private static void textCall(String name, Ask ask, int tape, int most) {
        int last = Math.min(tape, most);
        for (int n : new int[] {ANY_LEAST, -1, 0, last, last + 1, tape + 1, ANY_MOST}) {
            LetterScarecrow crow = garden(2, 1, 1);
            crow.book(0);
            law(crow, "1+");
            fed(crow, " ".repeat(tape));
            String before = state(crow);
            Face face = new Face(name, ask, new Bound[] {from(0, last)});
            hold(crow, face, new int[] {n});
            if (n < 0 || n > last) {
                due("nothing is changed by " + name + "(" + n + ")", state(crow), before);
            } else {
                due("TAPE behind " + name + "(" + n + ")", crow.count(1), 0);
            }
        }
    }

    public static void main(String[] args) {
        sentence("what is not told as fine is refused, and changes nothing but status");
        eachAlone(3, 2, 2);
        eachAlone(6, 6, 5);
        eachAlone(1, 1, 1);
        sentence("no such LETTER, BED, READER (so below, ahead of others)");
        together(3, 2, 2);
        together(6, 6, 5);
        together(1, 1, 1);
        sentence("of a GARDEN without CLAUSES");
        eachAlone(0, 0, 0);
        together(0, 0, 0);
        sentence("of a GARDEN with BEDS alone");
        eachAlone(4, 0, 0);
        texts();
        finish();
    }
}
