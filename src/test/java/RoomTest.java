import java.lang.management.ManagementFactory;

/** What the calls of a run make stays far below the room that all of them share. */
public final class RoomTest {
    // The room has 7.3 million fields and elements, nearly all of them ints of four bytes.
    private static final long ROOM_IN_BYTES = 7_300_000L * 4;
    private static final int CALLS = 512;

    private static final Checks checks = new Checks();
    private static final com.sun.management.ThreadMXBean threads =
        (com.sun.management.ThreadMXBean) ManagementFactory.getThreadMXBean();

    public static void main(String[] args) {
        newObjectsAreSmall();
        runningMakesNothing();
        takingTheTextMakesLittle();
        checks.end();
    }

    private static long made() {
        return threads.getCurrentThreadAllocatedBytes();
    }

    private static void newObjectsAreSmall() {
        new StopDesk();
        long before = made();
        for (int i = 0; i < CALLS; i++) {
            new StopDesk();
        }
        checks.due("room for new objects", made() - before < ROOM_IN_BYTES / 4, true);
    }

    private static void runningMakesNothing() {
        StopDesk desk = Checks.loaded("A0{@1{a=B(5);~{a=B(9);}{!e;}}}B1{?a=0{^0;}^1+B(a-1);}");
        for (int line = 0; line < 7; line++) {
            Checks.stop(desk, line, "B(3)+B(4)+B(4)+B(4)+1", 0, true);
        }
        goOften(desk);
        long before = made();
        goOften(desk);
        checks.due("made by running", made() - before < 1000, true);
        checks.due("notes were put", desk.note(-1) > 0, true);
    }

    private static void goOften(StopDesk desk) {
        for (int i = 0; i < CALLS; i++) {
            desk.start();
            desk.go(0, 50);
            desk.line(0);
            desk.variable(0, 0);
            desk.output(0);
            desk.note(0);
        }
    }

    private static void takingTheTextMakesLittle() {
        StopDesk desk = Checks.started("A0{!1;}");
        String expression = Checks.repeat("1+", 74) + "1";
        String program = "A0{!" + Checks.repeat("1+", 70) + "1;}";
        takeOnce(desk, expression, program);
        long before = made();
        for (int i = 0; i < CALLS; i++) {
            takeOnce(desk, expression, program);
        }
        checks.due("made by load, stop and evaluate", made() - before < ROOM_IN_BYTES / 4, true);
    }

    private static void takeOnce(StopDesk desk, String expression, String program) {
        Checks.load(desk, program);
        desk.start();
        Checks.evaluate(desk, 0, expression);
        Checks.stop(desk, 0, expression, 0, false);
    }
}
