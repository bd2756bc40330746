import java.util.function.Function;

/** An object is used for at most 512 calls: the last of them answers as any other one does. */
public final class LongLifeTest {
    private static final int ALL_CALLS = 512;

    public static void main(String[] args) {
        callsOfTimes();
        callsOfTheRest();
        refusedCalls();
        Check.finish();
    }

    /** Facts that agree up to day 6 and quarrel from day 7 on; a ring in OUT. Answers how many calls it took. */
    private static int furnish(PlateRoom room) {
        Rooms.fill(room, 3, 1);
        room.taken(0, 10, 20, 0);
        room.ahead(0, 1, 5, 0);
        room.stood(0, true, 0, 30, 0);
        room.taken(0, 30, 40, 7);
        room.edges(0, 1, 2);
        room.edges(1, 2, 3);
        room.edges(2, 3, 1);
        room.want(0, 5, 3, 4);
        room.want(1, 4, 2, 6);
        room.want(2, 7, 5, 5);
        room.law(100, 50);
        room.death(0, 60, 0);
        room.row(7);
        return 4 + 13;
    }

    /** One call of many kinds, none of which changes what the others answer. */
    private static void ask(PlateRoom room, int k) {
        switch (k % 14) {
            case 0 -> room.span(1, true, 0);
            case 1 -> room.times(0, false, false, 0);
            case 2 -> room.quarrel(7);
            case 3 -> room.frees(0, 7);
            case 4 -> room.order(1, 2, 0);
            case 5 -> room.fact(2, 0);
            case 6 -> room.edges(0, 1, 2);
            case 7 -> room.row(7);
            case 8 -> room.ring(3);
            case 9 -> room.rows(5);
            case 10 -> room.want(2, 7, 5, 5);
            case 11 -> room.hour(0);
            case 12 -> room.free(0, 200000, 0);
            default -> room.span(3, true, -1);
        }
    }

    private static PlateRoom usedFor(int calls) {
        PlateRoom room = new PlateRoom();
        for (int k = furnish(room); k < calls; k++) {
            ask(room, k);
        }
        return room;
    }

    private static void last(String name, int want, int status, Function<PlateRoom, Object> call) {
        Check.due(name + " as the last call", Twins.numberOf(call.apply(usedFor(ALL_CALLS - 1))), want);
        PlateRoom room = usedFor(ALL_CALLS - 2);
        call.apply(room);
        Check.due("status() as the last call, behind " + name, room.status(), status);
    }

    private static void last(String name, int want, Function<PlateRoom, Object> call) {
        last(name, want, 0, call);
    }

    private static void callsOfTimes() {
        Check.part("512 calls, 3 to 16");
        last("plate()", 3, room -> room.plate());
        last("motif()", 1, room -> room.motif());
        last("shows()", 4, room -> room.shows(2, 0, 0));
        last("ahead()", 4, room -> room.ahead(1, 2, 1, 0));
        last("same()", 4, room -> room.same(1, 2, 0));
        last("taken()", 4, room -> room.taken(2, 0, 9, 0));
        last("stood()", 4, room -> room.stood(0, false, 0, 5, 0));
        last("cross()", 1, room -> room.cross(0, 9));
        last("fact()", 7, room -> room.fact(3, 1));
        last("span()", 15, room -> room.span(1, false, 0));
        last("times()", 30, room -> room.times(0, true, true, 0));
        last("quarrel()", 2, room -> room.quarrel(7));
        last("frees()", 1, room -> room.frees(3, 7));
        last("order()", 2, room -> room.order(0, 1, 0));
    }

    private static void callsOfTheRest() {
        Check.part("512 calls, 17 to 27");
        last("edges()", 1, room -> room.edges(0, 1, 1));
        last("row()", 2, room -> room.row(6));
        last("ring()", 1, room -> room.ring(7));
        last("rows()", 1, room -> room.rows(5));
        Check.due("out(2) as the last call", usedFor(ALL_CALLS - 1).out(2), 2);
        last("want()", 1, room -> room.want(0, 1, 1, 1));
        last("best()", 9, room -> room.best());
        last("hour()", 3, room -> room.hour(1));
        last("law()", 1, room -> room.law(0, 0));
        last("death()", 1, room -> room.death(1, 0, 0));
        last("free()", 1, room -> room.free(0, 110, 0));
    }

    private static void refusedCalls() {
        Check.part("512 calls, refused ones");
        last("span() of no plate", -1, 1, room -> room.span(3, true, 0));
        last("span() on no day", -1, 2, room -> room.span(0, true, 10000));
        last("span() in a quarrel", -1, 5, room -> room.span(0, true, 7));
        last("quarrel() of none", -1, 6, room -> room.quarrel(6));
        last("row() of other bits", -1, 2, room -> room.row(8));
        last("hour() of one that is not in BEST", -1, 8, room -> room.hour(2));
    }
}
