import java.util.function.Consumer;
import java.util.function.Function;

/** The boundary cases of promise 2 and of section 5: which STATUS comes first, and which calls have none. */
public final class StatusBoundsTest {
    private static final int ALL_FACTS = 100;

    public static void main(String[] args) {
        everyStatus();
        statusHasNone();
        outHasNone();
        takenCallsGiveStatus0();
        noSuchComesAheadOfWrongNumbers();
        noSuchComesAheadOfOneTooMany();
        noSuchComesAheadOfQuarrels();
        wrongNumbersComeAheadOfOneTooMany();
        wrongNumbersComeAheadOfCrossedOut();
        wrongNumbersComeAheadOfQuarrels();
        wrongNumbersComeAheadOfNoRow();
        oneTooManyOfOthersIsNoHindrance();
        quarrelsHinderNoOtherCall();
        Check.finish();
    }

    /** Facts that quarrel on all days, the second crossed out on the last one; no row of all plates. */
    private static void quarrelling(PlateRoom room) {
        Rooms.fill(room, 3, 1);
        room.taken(0, 1, 1, 0);
        room.taken(0, 2, 2, 0);
        room.taken(0, 3, 3, 9999);
        room.cross(1, 9999);
    }

    private static PlateRoom made(Consumer<PlateRoom> making) {
        PlateRoom room = new PlateRoom();
        making.accept(room);
        return room;
    }

    /** A call for each status but 0, of a room that is furnished. */
    private static void refuse(PlateRoom room, int status) {
        switch (status) {
            case 1 -> room.span(4, true, 0);
            case 2 -> room.span(3, true, 10000);
            case 3 -> tooManyMotifs(room);
            case 4 -> room.cross(6, 0);
            case 5 -> room.span(3, true, 100);
            case 6 -> room.quarrel(99);
            case 7 -> room.row(15);
            default -> room.hour(2);
        }
    }

    private static void tooManyMotifs(PlateRoom room) {
        for (int k = 0; k < 17; k++) {
            room.motif();
        }
    }

    private static void everyStatus() {
        Check.part("2 STATUS of the latest call that has one");
        PlateRoom room = made(Rooms::furnish);
        Check.due("status()", room.status(), 0);
        for (int status = 1; status <= 8; status++) {
            refuse(room, status);
            Check.due("status() " + status, room.status(), status);
        }
        for (int status = 8; status >= 1; status--) {
            refuse(room, status);
            Check.due("status() " + status, room.status(), status);
            room.best();
            Check.due("status() behind best()", room.status(), 0);
        }
    }

    private static void statusHasNone() {
        Check.part("2 status() has none");
        for (int status = 1; status <= 8; status++) {
            PlateRoom room = made(Rooms::furnish);
            refuse(room, status);
            for (int k = 0; k < 3; k++) {
                Check.due("status() again", room.status(), status);
            }
        }
    }

    private static void outHasNone() {
        Check.part("2 and 21 out() has none");
        for (int status = 1; status <= 8; status++) {
            PlateRoom room = made(Rooms::furnish);
            refuse(room, status);
            Check.due("out(2)", room.out(2), 2);
            Check.due("status() behind out(2)", room.status(), status);
            Check.due("out(3)", room.out(3), -1);
            Check.due("status() behind out(3)", room.status(), status);
            Check.due("out(-1)", room.out(-1), -1);
            Check.due("status() behind out(-1)", room.status(), status);
        }
        PlateRoom room = made(Rooms::furnish);
        room.best();
        Check.due("out(3)", room.out(3), -1);
        Check.due("status() stays 0", room.status(), 0);
    }

    private static void taken(String name, Function<PlateRoom, Object> call) {
        PlateRoom room = made(Rooms::furnish);
        refuse(room, 7);
        Check.due(name + " is refused", Twins.numberOf(call.apply(room)) >= 0, true);
        Check.due(name + ", status", room.status(), 0);
    }

    private static void takenCallsGiveStatus0() {
        Check.part("2 STATUS 0 behind each call that is taken");
        taken("plate()", room -> room.plate());
        taken("motif()", room -> room.motif());
        taken("shows()", room -> room.shows(0, 0, 0));
        taken("ahead()", room -> room.ahead(0, 1, 0, 0));
        taken("same()", room -> room.same(0, 1, 0));
        taken("taken()", room -> room.taken(0, 0, 0, 0));
        taken("stood()", room -> room.stood(0, true, 0, 0, 0));
        taken("cross()", room -> room.cross(0, 0));
        taken("fact()", room -> room.fact(0, 0));
        taken("span()", room -> room.span(0, true, 0));
        taken("times()", room -> room.times(0, true, true, 0));
        taken("quarrel()", room -> room.quarrel(100));
        taken("frees()", room -> room.frees(0, 100));
        taken("order()", room -> room.order(0, 1, 0));
        taken("edges()", room -> room.edges(0, 0, 0));
        taken("row()", room -> room.row(1));
        taken("ring()", room -> room.ring(1));
        taken("rows()", room -> room.rows(1));
        taken("want()", room -> room.want(0, 0, 1, 1));
        taken("best()", room -> room.best());
        taken("hour()", room -> room.hour(0));
        taken("law()", room -> room.law(0, 0));
        taken("death()", room -> room.death(0, 0, 0));
        taken("free()", room -> room.free(0, 0, 0));
    }

    private static void first(int status, Consumer<PlateRoom> making, String name, Function<PlateRoom, Object> call) {
        Twins.refused(name, status, making, call);
    }

    private static void noSuchComesAheadOfWrongNumbers() {
        Check.part("5 1 comes ahead of 2");
        first(1, Rooms::furnish, "shows(4, 0, -1)", room -> room.shows(4, 0, -1));
        first(1, Rooms::furnish, "shows(0, 2, 10000)", room -> room.shows(0, 2, 10000));
        first(1, Rooms::furnish, "ahead(4, 0, 100001, 0)", room -> room.ahead(4, 0, 100001, 0));
        first(1, Rooms::furnish, "ahead(0, 4, 0, -1)", room -> room.ahead(0, 4, 0, -1));
        first(1, Rooms::furnish, "ahead(1, 1, 100001, -1)", room -> room.ahead(1, 1, 100001, -1));
        first(1, Rooms::furnish, "same(4, 0, -1)", room -> room.same(4, 0, -1));
        first(1, Rooms::furnish, "same(0, 4, -1)", room -> room.same(0, 4, -1));
        first(1, Rooms::furnish, "same(1, 1, 10000)", room -> room.same(1, 1, 10000));
        first(1, Rooms::furnish, "taken(4, 2, 1, 0)", room -> room.taken(4, 2, 1, 0));
        first(1, Rooms::furnish, "taken(-1, -1, 1, -1)", room -> room.taken(-1, -1, 1, -1));
        first(1, Rooms::furnish, "stood(2, true, 2, 1, 0)", room -> room.stood(2, true, 2, 1, 0));
        first(1, Rooms::furnish, "stood(-1, false, 0, 0, -1)", room -> room.stood(-1, false, 0, 0, -1));
        first(1, Rooms::furnish, "cross(9, -1)", room -> room.cross(9, -1));
        first(1, Rooms::furnish, "fact(9, 4)", room -> room.fact(9, 4));
        first(1, Rooms::furnish, "span(4, true, -1)", room -> room.span(4, true, -1));
        first(1, Rooms::furnish, "times(2, true, true, -1)", room -> room.times(2, true, true, -1));
        first(1, Rooms::furnish, "frees(9, -1)", room -> room.frees(9, -1));
        first(1, Rooms::furnish, "order(4, 0, -1)", room -> room.order(4, 0, -1));
        first(1, Rooms::furnish, "order(1, 1, 10000)", room -> room.order(1, 1, 10000));
        first(1, Rooms::furnish, "edges(4, -1, 100)", room -> room.edges(4, -1, 100));
        first(1, Rooms::furnish, "want(4, 100, 0, 0)", room -> room.want(4, 100, 0, 0));
        first(1, Rooms::furnish, "death(4, -1, -1)", room -> room.death(4, -1, -1));
        first(1, Rooms::furnish, "free(4, -1, -1)", room -> room.free(4, -1, -1));
    }

    private static void noSuchComesAheadOfOneTooMany() {
        Check.part("5 1 comes ahead of 3");
        Consumer<PlateRoom> full = Rooms.withFacts(ALL_FACTS);
        first(1, full, "shows(2, 0, 0)", room -> room.shows(2, 0, 0));
        first(1, full, "shows(0, 1, 0)", room -> room.shows(0, 1, 0));
        first(1, full, "ahead(0, 2, 0, 0)", room -> room.ahead(0, 2, 0, 0));
        first(1, full, "ahead(1, 1, 0, 0)", room -> room.ahead(1, 1, 0, 0));
        first(1, full, "same(2, 0, 0)", room -> room.same(2, 0, 0));
        first(1, full, "same(0, 0, 0)", room -> room.same(0, 0, 0));
        first(1, full, "taken(2, 0, 0, 0)", room -> room.taken(2, 0, 0, 0));
        first(1, full, "stood(1, true, 0, 0, 0)", room -> room.stood(1, true, 0, 0, 0));
        first(1, full, "all three", room -> room.taken(2, 1, 0, -1));
    }

    private static void noSuchComesAheadOfQuarrels() {
        Check.part("5 1 comes ahead of 5 and 6");
        first(1, StatusBoundsTest::quarrelling, "span(3, true, 0)", room -> room.span(3, true, 0));
        first(1, StatusBoundsTest::quarrelling, "times(1, true, true, 0)", room -> room.times(1, true, true, 0));
        first(1, StatusBoundsTest::quarrelling, "order(3, 0, 0)", room -> room.order(3, 0, 0));
        first(1, StatusBoundsTest::quarrelling, "order(0, 3, 0)", room -> room.order(0, 3, 0));
        first(1, StatusBoundsTest::quarrelling, "order(0, 0, 0)", room -> room.order(0, 0, 0));
        first(1, StatusBoundsTest::quarrelling, "frees(3, 0)", room -> room.frees(3, 0));
        first(1, Rooms::furnish, "frees(9, 0)", room -> room.frees(9, 0));
    }

    private static void wrongNumbersComeAheadOfOneTooMany() {
        Check.part("5 2 comes ahead of 3");
        Consumer<PlateRoom> full = Rooms.withFacts(ALL_FACTS);
        first(2, full, "shows(0, 0, -1)", room -> room.shows(0, 0, -1));
        first(2, full, "ahead(0, 1, 0, 10000)", room -> room.ahead(0, 1, 0, 10000));
        first(2, full, "ahead(0, 1, -100001, 0)", room -> room.ahead(0, 1, -100001, 0));
        first(2, full, "same(0, 1, -1)", room -> room.same(0, 1, -1));
        first(2, full, "taken(0, 1, 0, 0)", room -> room.taken(0, 1, 0, 0));
        first(2, full, "taken(0, 0, 100001, 0)", room -> room.taken(0, 0, 100001, 0));
        first(2, full, "taken(0, 0, 0, -1)", room -> room.taken(0, 0, 0, -1));
        first(2, full, "stood(0, true, 1, 0, 0)", room -> room.stood(0, true, 1, 0, 0));
        first(2, full, "stood(0, false, 0, 0, 10000)", room -> room.stood(0, false, 0, 0, 10000));
    }

    private static void wrongNumbersComeAheadOfCrossedOut() {
        Check.part("5 2 comes ahead of 4");
        first(2, Rooms::furnish, "cross(6, -1)", room -> room.cross(6, -1));
        first(2, Rooms::furnish, "cross(6, 10000)", room -> room.cross(6, 10000));
        first(4, Rooms::furnish, "cross(6, 9999)", room -> room.cross(6, 9999));
    }

    private static void wrongNumbersComeAheadOfQuarrels() {
        Check.part("5 2 comes ahead of 5, 6 and 8");
        for (int day : new int[] {-1, 10000}) {
            first(2, StatusBoundsTest::quarrelling, "span()", room -> room.span(0, true, day));
            first(2, StatusBoundsTest::quarrelling, "times()", room -> room.times(0, true, true, day));
            first(2, StatusBoundsTest::quarrelling, "order()", room -> room.order(0, 1, day));
            first(2, StatusBoundsTest::quarrelling, "frees()", room -> room.frees(2, day));
            first(2, Rooms::furnish, "quarrel() of what agrees", room -> room.quarrel(day));
            first(2, Rooms.withFacts(6), "frees() of what agrees", room -> room.frees(0, day));
        }
    }

    private static void wrongNumbersComeAheadOfNoRow() {
        Check.part("5 2 comes ahead of 7");
        first(2, Rooms::furnish, "row(31)", room -> room.row(31));
        first(2, Rooms::furnish, "ring(31)", room -> room.ring(31));
        first(7, Rooms::furnish, "row(15)", room -> room.row(15));
        first(7, Rooms::furnish, "ring(15)", room -> room.ring(15));
    }

    private static void oneTooManyOfOthersIsNoHindrance() {
        Check.part("5 3 is of what the call adds alone");
        PlateRoom room = made(Rooms.withFacts(ALL_FACTS));
        Check.taken(room, "plate() with all facts", room.plate(), 2);
        Check.taken(room, "motif() with all facts", room.motif(), 1);
        Check.taken(room, "law() with all facts", room.law(0, 0));
        Check.taken(room, "death() with all facts", room.death(0, 0, 0));
        Check.taken(room, "cross() with all facts", room.cross(99, 0));
        room = Rooms.of(20, 16);
        Check.taken(room, "shows() with all plates and motifs", room.shows(19, 15, 0), 0);
        for (int k = 0; k < 10; k++) {
            room.law(0, 0);
        }
        Check.taken(room, "death() with all laws", room.death(19, 0, 0));
        for (int k = 0; k < 59; k++) {
            room.death(0, 0, 0);
        }
        Check.refused(room, "law() with all laws", room.law(0, 0), 3);
        Check.refused(room, "death() with all deaths", room.death(19, 0, 0), 3);
        Check.taken(room, "taken() with all deaths", room.taken(19, 0, 0, 0), 1);
    }

    private static void quarrelsHinderNoOtherCall() {
        Check.part("5 5 is of span(), times() and order() alone");
        PlateRoom room = made(StatusBoundsTest::quarrelling);
        Check.taken(room, "taken()", room.taken(0, 4, 4, 0), 3);
        Check.taken(room, "shows()", room.shows(0, 0, 0), 4);
        Check.taken(room, "fact()", room.fact(3, 1), 0);
        Check.taken(room, "row()", room.row(1), 1);
        Check.taken(room, "best()", room.best(), 0);
        Check.taken(room, "hour()", room.hour(2), 2);
        Check.taken(room, "law()", room.law(0, 0));
        Check.taken(room, "death()", room.death(0, 0, 0));
        Check.taken(room, "free()", room.free(0, 0, 0), 1);
        Check.taken(room, "cross()", room.cross(3, 0));
    }
}
