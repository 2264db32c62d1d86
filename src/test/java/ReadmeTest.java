import java.nio.file.Files;
import java.nio.file.Path;
import java.util.ArrayList;
import java.util.List;

/** Each call that README.md shows with an answer is made here, in its order, and answers just that. */
public final class ReadmeTest extends Checks {
    private static final List<String> SHOWN = new ArrayList<>();
    private static int at = 0;

    private static void shown(String call, long answer) {
        String line = at < SHOWN.size() ? SHOWN.get(at) : "";
        String start = call + "; // " + answer;
        due("README.md, call " + at, line.equals(start) || line.startsWith(start + ":") ? start : line, start);
        at++;
    }

    public static void main(String[] args) throws Exception {
        for (String line : Files.readAllLines(Path.of("README.md"))) {
            if (line.startsWith("crow.") && line.contains("; // ")) {
                SHOWN.add(line);
            }
        }
        LetterScarecrow crow = new LetterScarecrow();
        String garden = "bed 3; bed 9; letter 0 1 2 3; letter 1 3 4; reader 1;";
        shown("crow.garden(fed(crow, \"" + garden + "\"))", garden(crow, garden));
        shown("crow.law(fed(crow, \"least[left, rain / 4]\"))", law(crow, "least[left, rain / 4]"));
        String work = "wind 9; rain 8; walk 0 0; walk 0 0; year;";
        shown("crow.work(fed(crow, \"" + work + "\"))", work(crow, work));
        shown("crow.told(10)", crow.told(10));
        shown("crow.reader(0, 1)", crow.reader(0, 1));
        shown("crow.lies(0, 0)", crow.lies(0, 0));
        shown("crow.letter(0, 3)", crow.letter(0, 3));
        shown("crow.book(fed(crow, \"0 3;\"))", book(crow, "0 3;"));
        shown("crow.fits(0)", crow.fits(0));
        shown("crow.undo()", crow.undo());
        shown("crow.told(3)", crow.told(3));
        shown("crow.work(fed(crow, \"rain 4; eat 2;\"))", work(crow, "rain 4; eat 2;"));
        shown("crow.fault()", crow.fault());
        due("calls that README.md shows", SHOWN.size(), at);
        finish();
    }
}
