import java.lang.management.ManagementFactory;

/** What an object and its dearest calls make stays far below the room that all calls of a run have. */
public final class RoomTest {
    private static int wrong = 0;

    private interface Calls {
        void make(LetterScarecrow crow, int turn);
    }

    private static long made(LetterScarecrow crow, Calls calls) {
        com.sun.management.ThreadMXBean bean = (com.sun.management.ThreadMXBean) ManagementFactory.getThreadMXBean();
        long id = Thread.currentThread().getId();
        long before = bean.getThreadAllocatedBytes(id);
        for (int turn = 0; turn < 512; turn++) {
            calls.make(crow, turn);
        }
        return bean.getThreadAllocatedBytes(id) - before;
    }

    private static void under(String what, long most, Calls calls) {
        LetterScarecrow crow = new LetterScarecrow();
        made(crow, calls);
        long bytes = made(crow, calls);
        if (bytes > most) {
            wrong++;
            System.out.println(what + ": 512 turns made " + bytes + " bytes, " + most + " at most are due");
        }
    }

    public static void main(String[] args) {
        under("work and undo", 700000, (crow, turn) -> {
            crow.work(0);
            crow.undo();
        });
        under("image and restore", 700000, (crow, turn) -> {
            crow.image();
            crow.restore();
        });
        under("new objects", 10000000, (crow, turn) -> new LetterScarecrow().told(0));
        under("what is asked", 20000, (crow, turn) -> {
            crow.stuff();
            crow.fits(0);
            crow.look(0);
            crow.summer(turn, 8, 48, 0);
            crow.ahead(99, 0);
            crow.all(turn);
            crow.garden(0);
            crow.book(0);
            crow.law(0);
        });
        System.exit(wrong == 0 ? 0 : 1);
    }
}
