/** The boundary cases of promises 1 and 3 to 11: a new room, plates, motifs, facts and their crossing out. */
public final class FactBoundsTest {
    public static void main(String[] args) {
        newRoomHasNoPlates();
        newRoomHasNoMotifs();
        newRoomHasNoFacts();
        newRoomHasNoLaws();
        newRoomHasNoDeaths();
        newRoomHasAnEmptyOut();
        newRoomHasStatus0();
        roomsShareNothing();
        atMost20Plates();
        aPlateTooMany();
        newPlateHasEdges0();
        newPlateIsWanted0();
        newPlateTakes1Hour();
        newPlateIsLostAt500();
        newPlateHasNoDeath();
        atMost16Motifs();
        aMotifTooMany();
        showsOfWhat();
        showsAtBothEnds();
        aheadOfWhat();
        aheadByHowMuch();
        aheadByAllTimes();
        aheadByAllTimesBack();
        aheadByNothing();
        sameOfWhat();
        sameIsBothWays();
        takenOfWhat();
        takenFromTo();
        takenFromAboveTo();
        takenAtTheEndsOfTime();
        stoodOfWhat();
        stoodFromTo();
        stoodFromAboveTo();
        stoodAtTheEndsOfTime();
        atMost100Facts();
        aFactTooMany();
        crossingGivesNoPlaceBack();
        crossOfWhat();
        crossedAlready();
        crossOnTheFirstDayAndTheLast();
        crossAheadOfTheTelling();
        factOfWhat();
        factWhat();
        factOfNoFact();
        factToldOnTheFirstDayAndTheLast();
        factNotCrossedOut();
        factLimits();
        Check.finish();
    }

    private static void newRoomHasNoPlates() {
        Check.part("1 no PLATES");
        Bounds.which("shows() of plate", 0, Rooms.with(0, 1), (room, k) -> room.shows(k, 0, 0));
        Bounds.which("ahead() of plate", 0, Rooms.with(0, 1), (room, k) -> room.ahead(k, 1, 0, 0));
        Bounds.which("same() of plate", 0, Rooms.with(0, 1), (room, k) -> room.same(k, 1, 0));
        Bounds.which("taken() of plate", 0, Rooms.with(0, 1), (room, k) -> room.taken(k, 0, 0, 0));
        Bounds.which("span() of plate", 0, Rooms.with(0, 1), (room, k) -> room.span(k, true, 0));
        Bounds.which("order() of plate", 0, Rooms.with(0, 1), (room, k) -> room.order(k, 1, 0));
        Bounds.which("edges() of plate", 0, Rooms.with(0, 1), (room, k) -> room.edges(k, 1, 1));
        Bounds.which("want() of plate", 0, Rooms.with(0, 1), (room, k) -> room.want(k, 1, 1, 1));
        Bounds.which("hour() of plate", 0, Rooms.with(0, 1), (room, k) -> room.hour(k));
        Bounds.which("death() of plate", 0, Rooms.with(0, 1), (room, k) -> room.death(k, 0, 0));
        Bounds.which("free() of plate", 0, Rooms.with(0, 1), (room, k) -> room.free(k, 0, 0));
        Twins.refused("row(1)", 2, Rooms.with(0, 1), room -> room.row(1));
        PlateRoom room = new PlateRoom();
        Check.taken(room, "best()", room.best(), 0);
        Check.taken(room, "rows(0)", room.rows(0), 0);
    }

    private static void newRoomHasNoMotifs() {
        Check.part("1 no MOTIFS");
        Bounds.which("shows() of motif", 0, Rooms.with(1, 0), (room, k) -> room.shows(0, k, 0));
        Bounds.which("stood() of motif", 0, Rooms.with(1, 0), (room, k) -> room.stood(k, false, 0, 0, 0));
        Bounds.which("stood() of motif", 0, Rooms.with(1, 0), (room, k) -> room.stood(k, true, 0, 0, 0));
        Bounds.which("times() of motif", 0, Rooms.with(1, 0), (room, k) -> room.times(k, false, false, 0));
    }

    private static void newRoomHasNoFacts() {
        Check.part("1 no FACTS");
        Bounds.which("cross()", 0, Rooms.with(2, 1), (room, k) -> room.cross(k, 0));
        Bounds.which("fact()", 0, Rooms.with(2, 1), (room, k) -> room.fact(k, 0));
        Bounds.which("frees()", 0, Rooms.with(2, 1), (room, k) -> room.frees(k, 0));
        Twins.refused("quarrel(9999)", 6, Rooms.with(2, 1), room -> room.quarrel(9999));
        PlateRoom room = Rooms.of(1, 0);
        Check.taken(room, "the first fact", room.taken(0, 0, 0, 0), 0);
    }

    private static void newRoomHasNoLaws() {
        Check.part("1 no LAWS");
        PlateRoom room = Rooms.of(1, 0);
        room.death(0, 0, 0);
        Check.taken(room, "free() on the last day", room.free(0, 200000, 9999), 0);
        Check.taken(room, "free() on the first day", room.free(0, 0, 0), 0);
        for (int k = 0; k < 10; k++) {
            Check.taken(room, "law() " + k, room.law(0, 0));
        }
        Check.refused(room, "law() 10", room.law(0, 0), 3);
    }

    private static void newRoomHasNoDeaths() {
        Check.part("1 no DEATHS");
        PlateRoom room = Rooms.of(1, 0);
        room.law(0, 0);
        Check.taken(room, "free() on the last day", room.free(0, 200000, 9999), 0);
        for (int k = 0; k < 60; k++) {
            Check.taken(room, "death() " + k, room.death(0, 0, 0));
        }
        Check.refused(room, "death() 60", room.death(0, 0, 0), 3);
    }

    private static void newRoomHasAnEmptyOut() {
        Check.part("1 OUT is empty");
        PlateRoom room = new PlateRoom();
        PlateRoom filled = Rooms.of(20, 16);
        for (int k : new int[] {0, 1, -1, 19, 20, Integer.MAX_VALUE, Integer.MIN_VALUE}) {
            Check.due("out(" + k + ")", room.out(k), -1);
            Check.due("out(" + k + ") with plates", filled.out(k), -1);
        }
    }

    private static void newRoomHasStatus0() {
        Check.part("1 STATUS 0");
        PlateRoom room = new PlateRoom();
        Check.due("status()", room.status(), 0);
        room = new PlateRoom();
        room.out(0);
        Check.due("status() behind out()", room.status(), 0);
    }

    private static void roomsShareNothing() {
        Check.part("1 a new object beside an older one");
        PlateRoom older = new PlateRoom();
        Rooms.furnish(older);
        PlateRoom room = new PlateRoom();
        Check.due("out(0)", room.out(0), -1);
        Check.refused(room, "span(0)", room.span(0, true, 0), 1);
        Check.refused(room, "times(0)", room.times(0, true, true, 0), 1);
        Check.refused(room, "fact(0)", room.fact(0, 0), 1);
        Check.taken(room, "plate()", room.plate(), 0);
        Check.taken(room, "hour(0)", room.hour(0), 0);
        Check.taken(room, "ring(1)", room.ring(1), 0);
        room.death(0, 0, 0);
        Check.taken(room, "free(0) by no law", room.free(0, 200000, 9999), 0);
        Check.taken(older, "the older one goes on", older.plate(), 4);
        room.plate();
        Check.taken(room, "row(2)", room.row(2), 1);
        Check.due("its OUT", room.out(0), 1);
        Check.due("the older one's OUT", older.out(0), 0);
        Check.due("the older one's OUT", older.out(2), 2);
    }

    private static void atMost20Plates() {
        Check.part("3 at most 20 PLATES, numbered as they come");
        PlateRoom room = new PlateRoom();
        for (int k = 0; k < 20; k++) {
            Check.refused(room, "span(" + k + ") ahead of it", room.span(k, true, 0), 1);
            Check.taken(room, "plate()", room.plate(), k);
            Check.taken(room, "span(" + k + ")", room.span(k, true, 0), 100000);
        }
        Check.refused(room, "plate() 20", room.plate(), 3);
        Check.refused(room, "span(20)", room.span(20, true, 0), 1);
    }

    private static void aPlateTooMany() {
        Check.part("3 one PLATE too many");
        Twins.refused("plate() 20", 3, Rooms.with(20, 2), room -> room.plate());
        Twins.refused("plate() 20 twice", 3, Rooms.with(20, 2), room -> {
            room.plate();
            return room.plate();
        });
        Twins.refused("row(1 << 20)", 2, Rooms.with(20, 2), room -> room.row(1 << 20));
        PlateRoom room = Rooms.of(20, 0);
        room.plate();
        Check.taken(room, "row() of the last", room.row(1 << 19), 1);
        Check.taken(room, "motif() behind it", room.motif(), 0);
    }

    private static void newPlateHasEdges0() {
        Check.part("3 its EDGES are 0");
        PlateRoom room = Rooms.of(20, 0);
        for (int k = 0; k < 20; k++) {
            Check.taken(room, "ring() of it", room.ring(1 << k), 0);
        }
        Check.taken(room, "rows() of all", room.rows((1 << 20) - 1), 20);
        room.edges(7, 1, 1);
        Check.taken(room, "none fits to 1", room.rows((1 << 20) - 1), 20);
    }

    private static void newPlateIsWanted0() {
        Check.part("3 WANTED 0");
        PlateRoom room = Rooms.of(20, 0);
        Check.taken(room, "best()", room.best(), 0);
        for (int k = 0; k < 20; k++) {
            room.want(k, 1, 1, 500);
            Check.taken(room, "best()", room.best(), k + 1);
        }
    }

    private static void newPlateTakes1Hour() {
        Check.part("3 HOURS 1");
        PlateRoom room = Rooms.of(20, 0);
        for (int k = 0; k < 20; k++) {
            Check.taken(room, "hour(" + k + ")", room.hour(k), k);
        }
    }

    private static void newPlateIsLostAt500() {
        Check.part("3 lost at 500");
        // Ten fill the hours up to 499, or to 500; the new one is copied behind all that are lost ahead.
        PlateRoom room = Rooms.of(11, 0);
        for (int k = 0; k < 10; k++) {
            room.want(k, 9, k == 0 ? 49 : 50, 499);
        }
        Check.taken(room, "hour(10) behind 499", room.hour(10), 499);
        room.want(0, 9, 50, 499);
        room.want(1, 9, 50, 500);
        Check.refused(room, "hour(10) behind 500", room.hour(10), 8);
        room.want(0, 9, 49, 500);
        Check.taken(room, "hour(0), lost at 500 as well", room.hour(0), 400);
        Check.taken(room, "hour(1), lost at 500 as well", room.hour(1), 449);
        Check.taken(room, "hour(10), the greatest of these", room.hour(10), 499);
    }

    private static void newPlateHasNoDeath() {
        Check.part("3 a new PLATE's DEATH is not known");
        PlateRoom room = Rooms.of(1, 0);
        room.law(0, 0);
        room.death(0, 0, 0);
        room.plate();
        Check.taken(room, "free(0)", room.free(0, 0, 0), 1);
        Check.taken(room, "free(1)", room.free(1, 200000, 9999), 0);
    }

    private static void atMost16Motifs() {
        Check.part("4 at most 16 MOTIFS, numbered as they come");
        PlateRoom room = new PlateRoom();
        for (int k = 0; k < 16; k++) {
            Check.refused(room, "times(" + k + ") ahead of it", room.times(k, true, true, 0), 1);
            Check.taken(room, "motif()", room.motif(), k);
            Check.taken(room, "times(" + k + ")", room.times(k, true, true, 0), 100000);
        }
        Check.refused(room, "motif() 16", room.motif(), 3);
        Check.refused(room, "times(16)", room.times(16, true, true, 0), 1);
    }

    private static void aMotifTooMany() {
        Check.part("4 one MOTIF too many");
        Twins.refused("motif() 16", 3, Rooms.with(2, 16), room -> room.motif());
        Twins.refused("motif() 16 twice", 3, Rooms.with(2, 16), room -> {
            room.motif();
            return room.motif();
        });
        PlateRoom room = Rooms.of(2, 16);
        room.motif();
        Check.taken(room, "plate() behind it", room.plate(), 2);
        Check.taken(room, "shows() of the last", room.shows(0, 15, 0), 0);
    }

    private static void showsOfWhat() {
        Check.part("5 shows");
        Bounds.which("shows() of plate", 4, Rooms::furnish, (room, k) -> room.shows(k, 1, 0));
        Bounds.which("shows() of motif", 2, Rooms::furnish, (room, k) -> room.shows(3, k, 0));
        Bounds.which("shows() of plate", 20, Rooms.with(20, 16), (room, k) -> room.shows(k, 15, 0));
        Bounds.which("shows() of motif", 16, Rooms.with(20, 16), (room, k) -> room.shows(19, k, 0));
        Bounds.day("shows()", Rooms::furnish, (room, day) -> room.shows(1, 1, day));
    }

    private static void showsAtBothEnds() {
        Check.part("5 between the TIMES of a MOTIF, these too");
        PlateRoom room = Rooms.of(1, 1);
        room.shows(0, 0, 0);
        room.stood(0, false, 10, 10, 0);
        room.stood(0, true, 20, 20, 0);
        Check.taken(room, "least", room.span(0, false, 0), 10);
        Check.taken(room, "greatest", room.span(0, true, 0), 20);
        room.taken(0, 10, 10, 1);
        Check.refused(room, "at its beginning", room.quarrel(1), 6);
        room.cross(3, 2);
        room.taken(0, 20, 20, 2);
        Check.refused(room, "at its end", room.quarrel(2), 6);
        room.cross(4, 3);
        room.taken(0, 9, 9, 3);
        Check.taken(room, "ahead of its beginning", room.quarrel(3), 3);
        room.cross(5, 4);
        room.taken(0, 21, 21, 4);
        Check.taken(room, "behind its end", room.quarrel(4), 3);
    }

    private static void aheadOfWhat() {
        Check.part("6 ahead");
        Bounds.which("ahead() of a", 3, Rooms.with(4, 0), (room, k) -> room.ahead(k, 3, 0, 0));
        Bounds.which("ahead() of b", 3, Rooms.with(4, 0), (room, k) -> room.ahead(3, k, 0, 0));
        Bounds.which("ahead() of a", 19, Rooms.with(20, 0), (room, k) -> room.ahead(k, 19, 0, 0));
        Twins.refused("ahead(20, 19)", 1, Rooms.with(20, 0), room -> room.ahead(20, 19, 0, 0));
        Twins.refused("ahead(19, 20)", 1, Rooms.with(20, 0), room -> room.ahead(19, 20, 0, 0));
        for (int k = 0; k < 4; k++) {
            int plate = k;
            Twins.refused("ahead() of like ones", 1, Rooms::furnish, room -> room.ahead(plate, plate, 0, 0));
        }
        Twins.refused("ahead() of like ones that are none", 1, Rooms::furnish, room -> room.ahead(4, 4, 0, 0));
        Bounds.day("ahead()", Rooms::furnish, (room, day) -> room.ahead(3, 0, 1, day));
    }

    private static void aheadByHowMuch() {
        Check.part("6 n from -100,000 to 100,000");
        Bounds.number("ahead() by", -100000, 100000, Rooms::furnish, (room, n) -> room.ahead(3, 0, n, 0));
        Bounds.number("ahead() by", -100000, 100000, Rooms.with(2, 0), (room, n) -> room.ahead(1, 0, n, 0));
    }

    private static void aheadByAllTimes() {
        Check.part("6 n of 100,000 and of 99,999");
        PlateRoom room = Rooms.of(2, 0);
        room.ahead(0, 1, 99999, 0);
        Check.taken(room, "greatest of a", room.span(0, true, 0), 1);
        Check.taken(room, "least of b", room.span(1, false, 0), 99999);
        room.ahead(0, 1, 100000, 1);
        Check.taken(room, "greatest of a", room.span(0, true, 1), 0);
        Check.taken(room, "least of b", room.span(1, false, 1), 100000);
        Check.taken(room, "order", room.order(0, 1, 1), 2);
    }

    private static void aheadByAllTimesBack() {
        Check.part("6 n of -100,000 and of -99,999");
        PlateRoom room = Rooms.of(2, 0);
        room.taken(0, 100000, 100000, 0);
        room.ahead(0, 1, -100000, 1);
        Check.taken(room, "least of b", room.span(1, false, 1), 0);
        room.ahead(0, 1, -99999, 2);
        Check.taken(room, "least of b", room.span(1, false, 2), 1);
        Check.taken(room, "greatest of b", room.span(1, true, 2), 100000);
        Check.taken(room, "order", room.order(0, 1, 2), 0);
    }

    private static void aheadByNothing() {
        Check.part("6 n of -1, 0 and 1");
        PlateRoom room = Rooms.of(2, 0);
        room.taken(0, 50, 50, 0);
        room.ahead(0, 1, -1, 1);
        Check.taken(room, "least of b by -1", room.span(1, false, 1), 49);
        room.ahead(0, 1, 0, 2);
        Check.taken(room, "least of b by 0", room.span(1, false, 2), 50);
        room.ahead(0, 1, 1, 3);
        Check.taken(room, "least of b by 1", room.span(1, false, 3), 51);
    }

    private static void sameOfWhat() {
        Check.part("7 same");
        Bounds.which("same() of a", 3, Rooms.with(4, 0), (room, k) -> room.same(k, 3, 0));
        Bounds.which("same() of b", 3, Rooms.with(4, 0), (room, k) -> room.same(3, k, 0));
        Bounds.which("same() of b", 19, Rooms.with(20, 0), (room, k) -> room.same(19, k, 0));
        Twins.refused("same(20, 19)", 1, Rooms.with(20, 0), room -> room.same(20, 19, 0));
        Twins.refused("same(19, 20)", 1, Rooms.with(20, 0), room -> room.same(19, 20, 0));
        for (int k = 0; k < 4; k++) {
            int plate = k;
            Twins.refused("same() of like ones", 1, Rooms::furnish, room -> room.same(plate, plate, 0));
        }
        Bounds.day("same()", Rooms::furnish, (room, day) -> room.same(0, 3, day));
    }

    private static void sameIsBothWays() {
        Check.part("7 at one TIME: none a moment ahead or behind");
        PlateRoom room = Rooms.of(2, 0);
        room.same(0, 1, 0);
        room.taken(0, 50, 60, 0);
        Check.taken(room, "least", room.span(1, false, 0), 50);
        Check.taken(room, "greatest", room.span(1, true, 0), 60);
        room.ahead(0, 1, 1, 1);
        Check.taken(room, "one ahead", room.quarrel(1), 2);
        room.cross(2, 2);
        room.ahead(1, 0, 1, 2);
        Check.taken(room, "one behind", room.quarrel(2), 2);
        room.cross(3, 3);
        room.ahead(1, 0, 0, 3);
        room.ahead(0, 1, 0, 3);
        Check.refused(room, "neither", room.quarrel(3), 6);
    }

    private static void takenOfWhat() {
        Check.part("8 taken");
        Bounds.which("taken() of plate", 4, Rooms::furnish, (room, k) -> room.taken(k, 0, 9, 0));
        Bounds.which("taken() of plate", 20, Rooms.with(20, 0), (room, k) -> room.taken(k, 0, 9, 0));
        Bounds.day("taken()", Rooms::furnish, (room, day) -> room.taken(3, 0, 9, day));
    }

    private static void takenFromTo() {
        Check.part("8 TIMES from 0 to 100,000");
        Bounds.number("taken() from", 0, 100000, Rooms::furnish, (room, from) -> room.taken(3, from, 100000, 0));
        Bounds.number("taken() to", 0, 100000, Rooms::furnish, (room, to) -> room.taken(3, 0, to, 0));
        Twins.refused("taken(-1, 100001)", 2, Rooms::furnish, room -> room.taken(3, -1, 100001, 0));
        Twins.refused("taken(-2, -1)", 2, Rooms::furnish, room -> room.taken(3, -2, -1, 0));
        Twins.refused("taken(100001, 100002)", 2, Rooms::furnish, room -> room.taken(3, 100001, 100002, 0));
        Twins.refused("taken() from the least int to the greatest", 2, Rooms::furnish,
                room -> room.taken(3, Integer.MIN_VALUE, Integer.MAX_VALUE, 0));
    }

    private static void takenFromAboveTo() {
        Check.part("8 from above to");
        Twins.refused("taken(8, 7)", 2, Rooms::furnish, room -> room.taken(3, 8, 7, 0));
        Twins.refused("taken(1, 0)", 2, Rooms::furnish, room -> room.taken(3, 1, 0, 0));
        Twins.refused("taken(100000, 99999)", 2, Rooms::furnish, room -> room.taken(3, 100000, 99999, 0));
        Twins.refused("taken(100000, 0)", 2, Rooms::furnish, room -> room.taken(3, 100000, 0, 0));
        PlateRoom room = Rooms.of(1, 0);
        Check.taken(room, "taken(7, 8)", room.taken(0, 7, 8, 0), 0);
        Check.taken(room, "taken(8, 8)", room.taken(0, 8, 8, 0), 1);
        Check.taken(room, "span", room.span(0, false, 0), 8);
    }

    private static void takenAtTheEndsOfTime() {
        Check.part("8 at 0, 1, 99,999 and 100,000");
        for (int time : new int[] {0, 1, 99999, 100000}) {
            PlateRoom room = Rooms.of(2, 0);
            Check.taken(room, "taken()", room.taken(0, time, time, 0), 0);
            Check.taken(room, "least", room.span(0, false, 0), time);
            Check.taken(room, "greatest", room.span(0, true, 0), time);
            Check.taken(room, "least of the other", room.span(1, false, 0), 0);
            Check.taken(room, "greatest of the other", room.span(1, true, 0), 100000);
        }
    }

    private static void stoodOfWhat() {
        Check.part("9 stood");
        Bounds.which("stood() of motif", 2, Rooms::furnish, (room, k) -> room.stood(k, false, 0, 9, 0));
        Bounds.which("stood() of motif", 2, Rooms::furnish, (room, k) -> room.stood(k, true, 0, 9, 0));
        Bounds.which("stood() of motif", 16, Rooms.with(0, 16), (room, k) -> room.stood(k, true, 0, 9, 0));
        Bounds.day("stood() began", Rooms::furnish, (room, day) -> room.stood(1, false, 0, 9, day));
        Bounds.day("stood() ended", Rooms::furnish, (room, day) -> room.stood(1, true, 0, 9, day));
    }

    private static void stoodFromTo() {
        Check.part("9 TIMES from 0 to 100,000");
        for (boolean end : new boolean[] {false, true}) {
            Bounds.number("stood() from", 0, 100000, Rooms::furnish, (room, from) -> room.stood(1, end, from, 100000, 0));
            Bounds.number("stood() to", 0, 100000, Rooms::furnish, (room, to) -> room.stood(1, end, 0, to, 0));
            Twins.refused("stood(-2, -1)", 2, Rooms::furnish, room -> room.stood(1, end, -2, -1, 0));
            Twins.refused("stood(100001, 100002)", 2, Rooms::furnish, room -> room.stood(1, end, 100001, 100002, 0));
        }
    }

    private static void stoodFromAboveTo() {
        Check.part("9 from above to");
        for (boolean end : new boolean[] {false, true}) {
            Twins.refused("stood(8, 7)", 2, Rooms::furnish, room -> room.stood(1, end, 8, 7, 0));
            Twins.refused("stood(100000, 0)", 2, Rooms::furnish, room -> room.stood(1, end, 100000, 0, 0));
            PlateRoom room = Rooms.of(0, 1);
            Check.taken(room, "stood(7, 8)", room.stood(0, end, 7, 8, 0), 0);
            Check.taken(room, "stood(8, 8)", room.stood(0, end, 8, 8, 0), 1);
            Check.taken(room, "times", room.times(0, end, false, 0), 8);
        }
    }

    private static void stoodAtTheEndsOfTime() {
        Check.part("9 at 0, 1, 99,999 and 100,000");
        for (int time : new int[] {0, 1, 99999, 100000}) {
            PlateRoom room = Rooms.of(0, 2);
            room.stood(0, false, time, time, 0);
            room.stood(1, true, time, time, 0);
            Check.taken(room, "began, least", room.times(0, false, false, 0), time);
            Check.taken(room, "began, greatest", room.times(0, false, true, 0), time);
            Check.taken(room, "its end, least", room.times(0, true, false, 0), time);
            Check.taken(room, "its end, greatest", room.times(0, true, true, 0), 100000);
            Check.taken(room, "ended, least", room.times(1, true, false, 0), time);
            Check.taken(room, "ended, greatest", room.times(1, true, true, 0), time);
            Check.taken(room, "its beginning, least", room.times(1, false, false, 0), 0);
            Check.taken(room, "its beginning, greatest", room.times(1, false, true, 0), time);
        }
    }

    private static void atMost100Facts() {
        Check.part("5 to 9 at most 100 FACTS, numbered as they come");
        for (int kind = 0; kind < 6; kind++) {
            PlateRoom room = new PlateRoom();
            Rooms.withFacts(98).accept(room);
            Check.taken(room, "fact 98 of kind " + kind, Rooms.oneFact(room, kind, 0), 98);
            Check.taken(room, "fact 99 of kind " + kind, Rooms.oneFact(room, kind, 0), 99);
            Check.taken(room, "its kind", room.fact(99, 0), kind);
            Check.refused(room, "fact 100 of kind " + kind, Rooms.oneFact(room, kind, 0), 3);
            Check.refused(room, "fact(100, 0)", room.fact(100, 0), 1);
        }
    }

    private static void aFactTooMany() {
        Check.part("5 to 9 one FACT too many");
        for (int k = 0; k < 6; k++) {
            int kind = k;
            Twins.refused("fact 100 of kind " + k, 3, Rooms.withFacts(100), room -> Rooms.oneFact(room, kind, 0));
        }
    }

    private static void crossingGivesNoPlaceBack() {
        Check.part("5 to 10 what is CROSSED OUT is still a FACT");
        PlateRoom room = new PlateRoom();
        Rooms.withFacts(100).accept(room);
        for (int k = 0; k < 100; k += 33) {
            Check.taken(room, "cross(" + k + ")", room.cross(k, 0));
        }
        for (int kind = 0; kind < 6; kind++) {
            Check.refused(room, "fact 100 of kind " + kind, Rooms.oneFact(room, kind, 9999), 3);
        }
        Check.taken(room, "fact(99, 2)", room.fact(99, 2), 0);
        Check.refused(room, "fact(100, 2)", room.fact(100, 2), 1);
    }

    private static void crossOfWhat() {
        Check.part("10 cross");
        Bounds.which("cross()", 9, Rooms::furnish, (room, k) -> room.cross(k, 0));
        Bounds.which("cross()", 100, Rooms.withFacts(100), (room, k) -> room.cross(k, 0));
        Bounds.day("cross()", Rooms::furnish, (room, day) -> room.cross(8, day));
    }

    private static void crossedAlready() {
        Check.part("10 it is CROSSED OUT already");
        for (int day : new int[] {0, 79, 80, 81, 9999}) {
            Twins.refused("cross(6, " + day + ")", 4, Rooms::furnish, room -> room.cross(6, day));
        }
        PlateRoom room = new PlateRoom();
        Rooms.furnish(room);
        Check.refused(room, "cross(6, 81)", room.cross(6, 81), 4);
        Check.taken(room, "its day", room.fact(6, 2), 80);
        Check.refused(room, "once more", room.cross(6, 80), 4);
        Check.taken(room, "another one", room.cross(5, 80));
    }

    private static void crossOnTheFirstDayAndTheLast() {
        Check.part("10 on DAY 0 and on DAY 9,999");
        PlateRoom room = Rooms.of(1, 0);
        room.taken(0, 5, 5, 0);
        room.taken(0, 5, 6, 0);
        Check.taken(room, "cross() on 0", room.cross(0, 0));
        Check.taken(room, "fact(0, 2)", room.fact(0, 2), 0);
        Check.refused(room, "cross() on 0 again", room.cross(0, 0), 4);
        Check.taken(room, "it is not known on 0", room.span(0, true, 0), 6);
        Check.taken(room, "cross() on 9999", room.cross(1, 9999));
        Check.taken(room, "fact(1, 2)", room.fact(1, 2), 9999);
        Check.refused(room, "cross() on 9999 again", room.cross(1, 9999), 4);
        Check.taken(room, "it is known on 9998", room.span(0, true, 9998), 6);
        Check.taken(room, "it is not known on 9999", room.span(0, true, 9999), 100000);
    }

    private static void crossAheadOfTheTelling() {
        Check.part("10 on the DAY on which it was TOLD, and ahead of it");
        PlateRoom room = Rooms.of(1, 0);
        room.taken(0, 5, 5, 50);
        room.taken(0, 6, 6, 50);
        room.taken(0, 7, 7, 50);
        Check.taken(room, "cross() on that day", room.cross(0, 50));
        Check.taken(room, "cross() a day ahead", room.cross(1, 49));
        Check.taken(room, "cross() a day behind", room.cross(2, 51));
        Check.taken(room, "day 49", room.span(0, true, 49), 100000);
        Check.taken(room, "day 50", room.span(0, true, 50), 7);
        Check.taken(room, "day 51", room.span(0, true, 51), 100000);
    }

    private static void factOfWhat() {
        Check.part("11 fact");
        Bounds.which("fact()", 9, Rooms::furnish, (room, k) -> room.fact(k, 0));
        Bounds.which("fact()", 100, Rooms.withFacts(100), (room, k) -> room.fact(k, 3));
    }

    private static void factWhat() {
        Check.part("11 what 0 to 3");
        // Fact 6 is crossed out, so that none of the four is NONE.
        Bounds.number("fact() what", 0, 3, Rooms::furnish, (room, what) -> room.fact(6, what));
        PlateRoom room = new PlateRoom();
        Rooms.furnish(room);
        Check.taken(room, "fact(6, 0)", room.fact(6, 0), 2);
        Check.taken(room, "fact(6, 1)", room.fact(6, 1), 70);
        Check.taken(room, "fact(6, 2)", room.fact(6, 2), 80);
        Check.taken(room, "fact(6, 3)", room.fact(6, 3), 2);
        Check.refused(room, "fact(6, 4)", room.fact(6, 4), 2);
        Check.refused(room, "fact(6, -1)", room.fact(6, -1), 2);
    }

    private static void factOfNoFact() {
        Check.part("11 no such FACT comes ahead of no such what");
        Twins.refused("fact(9, 4)", 1, Rooms::furnish, room -> room.fact(9, 4));
        Twins.refused("fact(-1, -1)", 1, Rooms::furnish, room -> room.fact(-1, -1));
    }

    private static void factToldOnTheFirstDayAndTheLast() {
        Check.part("11 TOLD on DAY 0 and on DAY 9,999");
        for (int kind = 0; kind < 6; kind++) {
            PlateRoom room = Rooms.of(2, 1);
            Rooms.oneFact(room, kind, 0);
            Rooms.oneFact(room, kind, 9999);
            Check.taken(room, "fact(0, 1)", room.fact(0, 1), 0);
            Check.taken(room, "fact(1, 1)", room.fact(1, 1), 9999);
        }
    }

    private static void factNotCrossedOut() {
        Check.part("11 not CROSSED OUT: NONE, and STATUS 0");
        PlateRoom room = new PlateRoom();
        Rooms.furnish(room);
        for (int k = 0; k < 9; k++) {
            Check.taken(room, "fact(" + k + ", 2)", room.fact(k, 2), k == 6 ? 80 : -1);
        }
        room.fact(9, 2);
        Check.taken(room, "fact(0, 2) behind a refused one", room.fact(0, 2), -1);
    }

    private static void factLimits() {
        Check.part("11 how many LIMITS: AHEAD one, all others two");
        PlateRoom room = Rooms.of(2, 1);
        for (int kind = 0; kind < 6; kind++) {
            Rooms.oneFact(room, kind, 0);
            Check.taken(room, "kind", room.fact(kind, 0), kind);
            Check.taken(room, "limits", room.fact(kind, 3), kind == 1 ? 1 : 2);
        }
        room.cross(0, 0);
        Check.taken(room, "limits of what is crossed out", room.fact(0, 3), 2);
    }
}
