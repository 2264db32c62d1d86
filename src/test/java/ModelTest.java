import java.util.ArrayList;
import java.util.Arrays;
import java.util.List;
import java.util.NoSuchElementException;
import java.util.Random;

/** Long runs of calls drawn by fixed seeds, each answer held against Model's. */
public final class ModelTest {
    private static final String[] CALLS = {"feed:5", "garden:1", "law:1", "work:1", "book:1", "fault:0", "undo:0", "told:1",
        "letter:2", "word:2", "bed:2", "lies:2", "reader:2", "grown:1", "runs:2", "would:7", "ahead:2", "rains:3", "stuff:0",
        "stuffed:1", "all:1", "tour:1", "fits:1", "look:1", "pods:4", "she:3", "seed:3", "often:1", "hearers:1", "news:2",
        "full:1", "drains:1", "unread:1", "coming:2", "shared:2", "summer:4", "span:6", "image:0", "restore:0", "status:1",
        "count:1"};

    private final Random random;
    private final LetterScarecrow crow = new LetterScarecrow();
    private final Model model = new Model();
    private final List<String> log = new ArrayList<>();

    private ModelTest(long seed) {
        random = new Random(seed);
    }

    private interface Call {
        long answer();
    }

    private static String outcome(Call call) {
        try {
            return Long.toString(call.answer());
        } catch (RuntimeException e) {
            boolean known = e.getClass() == NoSuchElementException.class || e.getClass() == IllegalArgumentException.class;
            return known ? e.getClass().getSimpleName() : "unknown " + e;
        } catch (StackOverflowError e) {
            return "too deep";
        }
    }

    private boolean same(String name, int... x) {
        String got = outcome(() -> ofCrow(name, x));
        String want = outcome(() -> ofModel(name, x));
        log.add(name + Arrays.toString(x) + " answered " + got);
        if (!got.equals(want)) {
            System.out.println(String.join("\n", log.subList(Math.max(0, log.size() - 60), log.size())) + "\ndue is " + want);
            return false;
        }
        return true;
    }

    private long ofCrow(String name, int[] x) {
        return switch (name) {
            case "feed" -> crow.feed(x[0], x[1], x[2], x[3], x[4]);
            case "garden" -> crow.garden(x[0]);
            case "law" -> crow.law(x[0]);
            case "work" -> crow.work(x[0]);
            case "book" -> crow.book(x[0]);
            case "fault" -> crow.fault();
            case "undo" -> crow.undo();
            case "told" -> crow.told(x[0]);
            case "letter" -> crow.letter(x[0], x[1]);
            case "word" -> crow.word(x[0], x[1]);
            case "bed" -> crow.bed(x[0], x[1]);
            case "lies" -> crow.lies(x[0], x[1]);
            case "reader" -> crow.reader(x[0], x[1]);
            case "grown" -> crow.grown(x[0]);
            case "runs" -> crow.runs(x[0], x[1]);
            case "would" -> crow.would(x[0], x[1], x[2], x[3], x[4], x[5], x[6]);
            case "ahead" -> crow.ahead(x[0], x[1]);
            case "rains" -> crow.rains(x[0], x[1], x[2]);
            case "stuff" -> crow.stuff();
            case "stuffed" -> crow.stuffed(x[0]);
            case "all" -> crow.all(x[0]);
            case "tour" -> crow.tour(x[0]);
            case "fits" -> crow.fits(x[0]);
            case "look" -> crow.look(x[0]);
            case "pods" -> crow.pods(x[0], x[1], x[2], x[3]);
            case "she" -> crow.she(x[0], x[1], x[2]);
            case "seed" -> crow.seed(x[0], x[1], x[2]);
            case "often" -> crow.often(x[0]);
            case "hearers" -> crow.hearers(x[0]);
            case "news" -> crow.news(x[0], x[1]);
            case "full" -> crow.full(x[0]);
            case "drains" -> crow.drains(x[0]);
            case "unread" -> crow.unread(x[0]);
            case "coming" -> crow.coming(x[0], x[1]);
            case "shared" -> crow.shared(x[0], x[1]);
            case "summer" -> crow.summer(x[0], x[1], x[2], x[3]);
            case "span" -> crow.span(x[0], x[1], x[2], x[3], x[4], x[5]);
            case "image" -> crow.image();
            case "restore" -> crow.restore();
            case "status" -> crow.status(x[0]);
            default -> crow.count(x[0]);
        };
    }

    private long ofModel(String name, int[] x) {
        return switch (name) {
            case "feed" -> model.feed(x);
            case "garden" -> model.garden(x[0]);
            case "law" -> model.law(x[0]);
            case "work" -> model.work(x[0]);
            case "book" -> model.book(x[0]);
            case "fault" -> model.fault;
            case "undo" -> model.undo();
            case "told" -> model.told(x[0]);
            case "letter" -> model.letter(x[0], x[1]);
            case "word" -> model.word(x[0], x[1]);
            case "bed" -> model.bed(x[0], x[1]);
            case "lies" -> model.lies(x[0], x[1]);
            case "reader" -> model.reader(x[0], x[1]);
            case "grown" -> model.grown(x[0]);
            case "runs" -> model.runs(x[0], x[1]);
            case "would" -> model.would(x);
            case "ahead" -> model.ahead(x[0], x[1]);
            case "rains" -> model.rains(x[0], x[1], x[2]);
            case "stuff" -> model.stuff();
            case "stuffed" -> model.stuffed(x[0]);
            case "all" -> model.all(x[0]);
            case "tour" -> model.tour(x[0]);
            case "fits" -> model.fits(x[0]);
            case "look" -> model.look(x[0]);
            case "pods" -> model.pods(x[0], x[1], x[2], x[3]);
            case "she" -> model.she(x[0], x[1], x[2]);
            case "seed" -> model.seed(x[0], x[1], x[2]);
            case "often" -> model.often(x[0]);
            case "hearers" -> model.hearers(x[0]);
            case "news" -> model.news(x[0], x[1]);
            case "full" -> model.full(x[0]);
            case "drains" -> model.drains(x[0]);
            case "unread" -> model.unread(x[0]);
            case "coming" -> model.coming(x[0], x[1]);
            case "shared" -> model.shared(x[0], x[1]);
            case "summer" -> model.summer(x[0], x[1], x[2], x[3]);
            case "span" -> model.span(x);
            case "image" -> model.image();
            case "restore" -> model.restore();
            case "status" -> model.status(x[0]);
            default -> model.count(x[0]);
        };
    }

    private int pick(int below) {
        return random.nextInt(below);
    }

    private String blank() {
        return pick(6) == 0 ? " ".repeat(1 + pick(2)) : "";
    }

    private String number(int many) {
        int wide = pick(40);
        int value = wide == 0 ? many + pick(3) : pick(Math.max(1, many));
        return blank() + (pick(30) == 0 ? "0" : "") + value;
    }

    private String gardenText() {
        StringBuilder text = new StringBuilder();
        int beds = pick(8) == 0 ? pick(8) : 1 + pick(6);
        for (int i = 0; i < beds; i++) {
            text.append(blank()).append("bed ").append(number(31)).append(blank()).append(";");
        }
        int letters = pick(9) == 0 ? pick(8) : pick(7);
        int kinds = 2 + pick(15);
        for (int i = 0; i < letters; i++) {
            text.append("letter").append(number(beds));
            int words = pick(25) == 0 ? pick(10) : 1 + pick(8);
            for (int w = 0; w < words; w++) {
                text.append(" ").append(number(Math.min(16, kinds)));
            }
            text.append(blank()).append(";");
        }
        int readers = pick(9) == 0 ? pick(7) : pick(6);
        for (int i = 0; i < readers; i++) {
            text.append("reader").append(number(beds)).append(";").append(blank());
        }
        return text.toString();
    }

    private String sumText(int depth) {
        StringBuilder text = new StringBuilder(productText(depth));
        for (int i = pick(3); i > 0; i--) {
            text.append(blank()).append(pick(2) == 0 ? "+" : "-").append(productText(depth));
        }
        return text.toString();
    }

    private String productText(int depth) {
        StringBuilder text = new StringBuilder(unitText(depth));
        for (int i = pick(4) == 0 ? 1 + pick(2) : 0; i > 0; i--) {
            text.append(blank()).append("*/%".charAt(pick(3))).append(unitText(depth));
        }
        return text.toString();
    }

    private String unitText(int depth) {
        int kind = pick(depth > 7 ? 2 : 5);
        if (kind == 0) {
            return number(pick(4) == 0 ? 1000 : 12);
        }
        if (kind <= 2) {
            return blank() + Model.VALUES.get(pick(7));
        }
        if (kind == 3) {
            return blank() + "(" + sumText(depth + 1) + blank() + ")";
        }
        String head = pick(2) == 0 ? "least" : "most";
        return blank() + head + blank() + "[" + sumText(depth + 1) + blank() + "," + sumText(depth + 1) + "]";
    }

    private String workText(int depth, int steps) {
        StringBuilder text = new StringBuilder();
        int beds = model.ground.far.size();
        for (int i = 0; i < steps; i++) {
            text.append(blank());
            switch (pick(depth > 6 ? 8 : 10)) {
                case 0, 1 -> text.append("rain ").append(1 + pick(pick(30) == 0 ? 22 : 20));
                case 2 -> text.append("wind ").append(1 + pick(pick(30) == 0 ? 33 : 30));
                case 3 -> text.append("tie").append(number(model.ground.letters.size()));
                case 4, 5 -> text.append("walk").append(number(model.ground.homes.size())).append(" ").append(number(beds));
                case 6 -> text.append(pick(2) == 0 ? "year" : "eat" + number(beds));
                case 7 -> text.append("year");
                default -> text.append("again ").append(pick(pick(4) == 0 ? 32 : 4)).append(blank()).append("[")
                    .append(workText(depth + 1, pick(3))).append(blank()).append("]");
            }
            text.append(blank()).append(";");
        }
        return text.toString();
    }

    private String bookText() {
        StringBuilder text = new StringBuilder();
        int beds = model.ground.far.size();
        for (int b = 0; b < beds; b++) {
            if (pick(3) == 0) {
                int bed = pick(20) == 0 ? pick(7) : b;
                int word = bed < beds && pick(3) > 0 ? model.now.last(bed) : pick(17);
                text.append(blank()).append(bed).append(" ").append(word).append(blank()).append(";");
            }
        }
        return text.toString();
    }

    /** Now and then a sign is put in, taken out, or another one, or the text is cut. */
    private String spoilt(String text) {
        if (pick(4) != 0 || text.isEmpty()) {
            return text;
        }
        int at = pick(text.length());
        String signs = "abdeilnorstwy0123456789 ;[](),+-*/%" + (char) 0 + (char) 200 + "Z";
        char sign = signs.charAt(pick(signs.length()));
        return switch (pick(4)) {
            case 0 -> text.substring(0, at) + sign + text.substring(at);
            case 1 -> text.substring(0, at) + text.substring(at + 1);
            case 2 -> text.substring(0, at) + sign + text.substring(at + 1);
            default -> text.substring(0, at);
        };
    }

    private boolean tell(String name, String whole, int most) {
        String text = whole.substring(0, Math.min(most, whole.length()));
        log.add(name + " \"" + text + "\"");
        if (model.tape.length() > 0 && !same("book", 0)) {
            return false;
        }
        for (int at = 0; at < text.length(); at += 20) {
            int[] five = new int[5];
            for (int i = 0; i < 20; i++) {
                int sign = at + i < text.length() ? text.charAt(at + i) : pick(256);
                five[i / 4] = five[i / 4] << 8 | sign;
            }
            if (!same("feed", five)) {
                return false;
            }
        }
        return same(name, text.length()) && same("fault");
    }

    private int argument(String name) {
        int kind = pick(20);
        if (kind == 0) {
            return random.nextInt();
        }
        if (kind <= 2) {
            return pick(70000) - 5;
        }
        if (kind <= 6) {
            return pick(30) - 2;
        }
        return pick(name.equals("all") ? 65536 : kind <= 10 ? 13 : 5);
    }

    private boolean ask() {
        String call = CALLS[pick(CALLS.length)];
        String name = call.substring(0, call.indexOf(':'));
        int[] x = new int[call.charAt(call.length() - 1) - '0'];
        for (int i = 0; i < x.length; i++) {
            x[i] = argument(name);
        }
        if (name.equals("all") && pick(2) == 0) {
            x[0] = 1 << pick(16) | 1 << pick(16);
        }
        boolean seeded = name.equals("summer") || name.equals("span");
        if (seeded) {
            x[0] = random.nextInt();
        }
        if (seeded && pick(6) > 0) {
            int shift = name.equals("span") ? 1 : 0;
            x[shift] = shift == 1 ? 1 + pick(10) : x[0];
            x[1 + shift] = pick(17);
            x[2 + shift] = 1 + pick(pick(4) == 0 ? 48 : 6);
        }
        if (name.equals("garden") && model.tape.length() == 0 && pick(10) > 0) {
            return true;
        }
        if (name.equals("would") && pick(4) > 0) {
            x = new int[] {pick(21), pick(100), pick(9), pick(31), pick(13), pick(401), pick(6)};
        }
        return same(name, x);
    }

    private boolean run(int calls) {
        if (!tell("garden", gardenText(), 600)) {
            return false;
        }
        for (int i = 0; i < calls; i++) {
            int kind = pick(60);
            boolean right = kind == 0 && pick(4) == 0 ? tell("garden", spoilt(gardenText()), 600)
                : kind == 1 ? tell("law", spoilt(sumText(pick(5))), 150)
                : kind <= 4 ? tell("work", spoilt(workText(pick(6), pick(7))), 150)
                : kind == 5 ? tell("book", spoilt(bookText()), 60)
                : kind == 6 ? same("undo") && same("told", 10)
                : ask();
            if (!right) {
                return false;
            }
        }
        return true;
    }

    public static void main(String[] args) {
        int runs = args.length > 0 ? Integer.parseInt(args[0]) : 4000;
        for (int seed = 1; seed <= runs; seed++) {
            if (!new ModelTest(seed).run(300)) {
                System.out.println("in the run of seed " + seed);
                System.exit(1);
            }
        }
    }
}
