/** Counts the answers that are not as due; a test closes with finish(). */
final class Check {
    private static int looked = 0;
    private static int wrong = 0;
    private static String part = "";

    private Check() {
    }

    static void part(String name) {
        part = name;
    }

    static void due(String call, long got, long want) {
        looked++;
        if (got != want) {
            wrong++;
            System.out.println(part + ": " + call + " answered " + got + ", due is " + want);
        }
    }

    static void due(String call, boolean got, boolean want) {
        due(call, got ? 1 : 0, want ? 1 : 0);
    }

    /** A call that is refused: it gives NONE, and this status. */
    static void refused(PlateRoom room, String call, int got, int status) {
        due(call, got, PlateRoom.NONE);
        due(call + " status", room.status(), status);
    }

    static void refused(PlateRoom room, String call, boolean got, int status) {
        due(call, got, false);
        due(call + " status", room.status(), status);
    }

    /** A call that is taken: it gives this answer, and status 0. */
    static void taken(PlateRoom room, String call, int got, int want) {
        due(call, got, want);
        due(call + " status", room.status(), 0);
    }

    static void taken(PlateRoom room, String call, boolean got) {
        due(call, got, true);
        due(call + " status", room.status(), 0);
    }

    static int wrongSoFar() {
        return wrong;
    }

    static void finish() {
        System.out.println(looked + " answers looked at, " + wrong + " not as due");
        if (wrong != 0) {
            System.exit(1);
        }
    }
}
