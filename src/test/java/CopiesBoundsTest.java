/** The boundary cases of promises 22 to 24: wishes, a plate that ends just as it is lost, one that is not in BEST. */
public final class CopiesBoundsTest {
    public static void main(String[] args) {
        wantOfWhat();
        wantedFrom0To99();
        hoursFrom1To50();
        lostFrom1To500();
        wantedAtItsBounds();
        hoursAtTheirBounds();
        wantAgain();
        bestOfNoPlates();
        bestOfAll();
        bestOfNoneInTime();
        bestIsNeverRefused();
        justInTime();
        justInTimeBehindAnother();
        justInTimeAtTheLastHour();
        wantedNotAtAll();
        bestOfSeveral();
        hourOfWhat();
        notInBest();
        hourByTheLoss();
        hourOfLikeLoss();
        hourAtItsBounds();
        Check.finish();
    }

    /** Plates with their wishes one after the other: wanted, hours, lost, wanted, hours, lost .. */
    private static PlateRoom room(int... wishes) {
        PlateRoom room = new PlateRoom();
        for (int k = 0; k < wishes.length / 3; k++) {
            room.plate();
            Check.taken(room, "want(" + k + ")", room.want(k, wishes[3 * k], wishes[3 * k + 1], wishes[3 * k + 2]));
        }
        return room;
    }

    private static void wantOfWhat() {
        Check.part("22 want");
        Bounds.which("want() of plate", 4, Rooms::furnish, (room, k) -> room.want(k, 50, 1, 1));
        Bounds.which("want() of plate", 20, Rooms.with(20, 0), (room, k) -> room.want(k, 50, 1, 1));
    }

    private static void wantedFrom0To99() {
        Check.part("22 WANTED 0 to 99");
        Bounds.number("want()", 0, 99, Rooms::furnish, (room, wanted) -> room.want(1, wanted, 1, 1));
        Twins.refused("nothing of it is taken", 2, Rooms::furnish, room -> room.want(3, 100, 1, 500));
    }

    private static void hoursFrom1To50() {
        Check.part("22 HOURS 1 to 50");
        Bounds.number("want() of hours", 1, 50, Rooms::furnish, (room, hours) -> room.want(1, 99, hours, 500));
        Twins.refused("nothing of it is taken", 2, Rooms::furnish, room -> room.want(3, 99, 0, 500));
        Twins.refused("nothing of it is taken", 2, Rooms::furnish, room -> room.want(3, 99, 51, 500));
    }

    private static void lostFrom1To500() {
        Check.part("22 lost at an HOUR from 1 to 500");
        Bounds.number("want() lost", 1, 500, Rooms::furnish, (room, lost) -> room.want(1, 99, 1, lost));
        Twins.refused("nothing of it is taken", 2, Rooms::furnish, room -> room.want(3, 99, 1, 0));
        Twins.refused("nothing of it is taken", 2, Rooms::furnish, room -> room.want(3, 99, 1, 501));
        Twins.refused("all of it is wrong", 2, Rooms::furnish, room -> room.want(3, 100, 51, 501));
    }

    private static void wantedAtItsBounds() {
        Check.part("22 what WANTED 0, 1, 98 and 99 counts");
        for (int wanted : new int[] {0, 1, 98, 99}) {
            PlateRoom room = room(wanted, 1, 1);
            Check.taken(room, "best()", room.best(), wanted);
            Check.taken(room, "hour(0)", room.hour(0), 0);
        }
    }

    private static void hoursAtTheirBounds() {
        Check.part("22 what HOURS 1, 2, 49 and 50 take");
        for (int hours : new int[] {1, 2, 49, 50}) {
            PlateRoom room = room(1, hours, hours, 1, 1, 500);
            Check.taken(room, "hour(0)", room.hour(0), 0);
            Check.taken(room, "hour(1)", room.hour(1), hours);
        }
    }

    private static void wantAgain() {
        Check.part("22 once more: the latest counts");
        PlateRoom room = room(9, 5, 5, 1, 1, 6);
        Check.taken(room, "best()", room.best(), 10);
        Check.taken(room, "want()", room.want(0, 7, 5, 4));
        Check.taken(room, "best()", room.best(), 1);
        Check.taken(room, "want()", room.want(0, 0, 1, 500));
        Check.taken(room, "hour(0)", room.hour(0), 1);
    }

    private static void bestOfNoPlates() {
        Check.part("23 BEST of no PLATES");
        PlateRoom room = new PlateRoom();
        Check.taken(room, "best()", room.best(), 0);
        Check.refused(room, "hour(0)", room.hour(0), 1);
        Check.taken(room, "best() behind it", room.best(), 0);
    }

    private static void bestOfAll() {
        Check.part("23 BEST of 20 PLATES, all that can be WANTED");
        PlateRoom room = Rooms.of(20, 0);
        for (int k = 0; k < 20; k++) {
            room.want(k, 99, 25, 500);
        }
        Check.taken(room, "best()", room.best(), 1980);
        Check.taken(room, "hour(19)", room.hour(19), 475);
        room.want(0, 99, 26, 500);
        Check.taken(room, "an hour too many", room.best(), 1881);
        Check.taken(room, "of several sets the one with the least", room.hour(0), 0);
        Check.refused(room, "the greatest is left out", room.hour(19), 8);
        room.want(1, 99, 24, 500);
        Check.taken(room, "an hour less", room.best(), 1980);
    }

    private static void bestOfNoneInTime() {
        Check.part("23 none is in time");
        PlateRoom room = Rooms.of(20, 0);
        for (int k = 0; k < 20; k++) {
            room.want(k, 99, 2 + k, 1 + k);
        }
        Check.taken(room, "best()", room.best(), 0);
        for (int k = 0; k < 20; k++) {
            Check.refused(room, "hour(" + k + ")", room.hour(k), 8);
        }
    }

    private static void bestIsNeverRefused() {
        Check.part("23 best() has STATUS 0");
        PlateRoom room = new PlateRoom();
        Rooms.furnish(room);
        Check.refused(room, "span(9)", room.span(9, true, 0), 1);
        Check.taken(room, "best()", room.best(), 9);
        Check.due("OUT is as it was", room.out(2), 2);
    }

    private static void justInTime() {
        Check.part("23 ended at the HOUR at which it is lost, or ahead");
        for (int hours : new int[] {2, 3, 49, 50}) {
            PlateRoom room = room(5, hours, hours);
            Check.taken(room, "at it", room.best(), 5);
            Check.taken(room, "at it", room.hour(0), 0);
            room.want(0, 5, hours, hours + 1);
            Check.taken(room, "an hour ahead", room.best(), 5);
            room.want(0, 5, hours, hours - 1);
            Check.taken(room, "an hour behind", room.best(), 0);
            Check.refused(room, "an hour behind", room.hour(0), 8);
        }
    }

    private static void justInTimeBehindAnother() {
        Check.part("23 and 24 just in time, behind another one");
        PlateRoom room = room(5, 3, 3, 5, 4, 7);
        Check.taken(room, "at it", room.best(), 10);
        Check.taken(room, "at it", room.hour(1), 3);
        room.want(1, 5, 4, 8);
        Check.taken(room, "an hour ahead", room.best(), 10);
        Check.taken(room, "an hour ahead", room.hour(1), 3);
        room.want(1, 5, 4, 6);
        Check.taken(room, "an hour behind", room.best(), 5);
        Check.taken(room, "the lesser number is in it", room.hour(0), 0);
        Check.refused(room, "the greater one is not", room.hour(1), 8);
        room.want(1, 6, 4, 6);
        Check.taken(room, "more wanted", room.best(), 6);
        Check.refused(room, "the lesser number is not", room.hour(0), 8);
        Check.taken(room, "the greater one is in it", room.hour(1), 0);
    }

    private static void justInTimeAtTheLastHour() {
        Check.part("23 and 24 just in time at HOUR 500");
        PlateRoom room = Rooms.of(10, 0);
        for (int k = 0; k < 10; k++) {
            room.want(k, 9, 50, 500);
        }
        Check.taken(room, "at it", room.best(), 90);
        Check.taken(room, "the last one begins", room.hour(9), 450);
        room.want(9, 9, 50, 499);
        Check.taken(room, "it is copied ahead of all then", room.hour(9), 0);
        Check.taken(room, "the other ones behind it", room.hour(8), 450);
        for (int k = 0; k < 9; k++) {
            room.want(k, 9, 50, 499);
        }
        Check.taken(room, "all lost at 499", room.best(), 81);
        Check.refused(room, "the greatest number is not in it", room.hour(9), 8);
    }

    private static void wantedNotAtAll() {
        Check.part("23 WANTED 0, and yet in BEST, if it can be in time");
        PlateRoom room = room(0, 5, 10, 7, 5, 10);
        Check.taken(room, "best()", room.best(), 7);
        Check.taken(room, "hour(0)", room.hour(0), 0);
        Check.taken(room, "hour(1)", room.hour(1), 5);
        room.want(0, 0, 6, 10);
        Check.refused(room, "it can't", room.hour(0), 8);
        Check.taken(room, "hour(1)", room.hour(1), 0);
    }

    private static void bestOfSeveral() {
        Check.part("23 of several that with the least number that is in one alone");
        PlateRoom room = room(1, 2, 2, 1, 1, 2, 0, 1, 2);
        Check.taken(room, "{0} or {1, 2}", room.best(), 1);
        Check.taken(room, "0 is in one alone", room.hour(0), 0);
        Check.refused(room, "1", room.hour(1), 8);
        Check.refused(room, "2", room.hour(2), 8);
        room = room(1, 1, 3, 1, 2, 3, 1, 2, 3);
        Check.taken(room, "{0, 1} or {0, 2}", room.hour(1), 1);
        Check.refused(room, "2 is left out", room.hour(2), 8);
        room.want(2, 2, 2, 3);
        Check.refused(room, "the more wanted ahead of the lesser number", room.hour(1), 8);
        Check.taken(room, "{0, 2}", room.hour(2), 1);
        Check.taken(room, "best()", room.best(), 3);
    }

    private static void hourOfWhat() {
        Check.part("24 hour");
        Bounds.which("hour()", 2, Rooms.with(2, 0), (room, k) -> room.hour(k));
        Bounds.which("hour()", 20, Rooms.with(20, 0), (room, k) -> room.hour(k));
        Twins.refused("hour(4)", 1, Rooms::furnish, room -> room.hour(4));
    }

    private static void notInBest() {
        Check.part("24 a PLATE that is not in BEST");
        Twins.refused("hour(2)", 8, Rooms::furnish, room -> room.hour(2));
        Twins.refused("hour(3)", 8, Rooms::furnish, room -> room.hour(3));
        PlateRoom room = new PlateRoom();
        Rooms.furnish(room);
        Check.taken(room, "hour(0)", room.hour(0), 0);
        Check.taken(room, "hour(1)", room.hour(1), 3);
    }

    private static void hourByTheLoss() {
        Check.part("24 copied by the HOURS at which they are lost");
        PlateRoom room = room(1, 10, 31, 1, 7, 30, 1, 5, 29);
        Check.taken(room, "hour(2)", room.hour(2), 0);
        Check.taken(room, "hour(1)", room.hour(1), 5);
        Check.taken(room, "hour(0)", room.hour(0), 12);
        room.want(0, 1, 10, 28);
        Check.taken(room, "hour(0) first", room.hour(0), 0);
        Check.taken(room, "hour(2)", room.hour(2), 10);
        Check.taken(room, "hour(1)", room.hour(1), 15);
    }

    private static void hourOfLikeLoss() {
        Check.part("24 of like ones the lesser number ahead");
        PlateRoom room = room(1, 10, 40, 99, 7, 40, 50, 5, 40, 3, 1, 39);
        Check.taken(room, "hour(3)", room.hour(3), 0);
        Check.taken(room, "hour(0)", room.hour(0), 1);
        Check.taken(room, "hour(1)", room.hour(1), 11);
        Check.taken(room, "hour(2)", room.hour(2), 18);
        room.want(0, 1, 10, 41);
        Check.taken(room, "hour(1)", room.hour(1), 1);
        Check.taken(room, "hour(2)", room.hour(2), 8);
        Check.taken(room, "hour(0)", room.hour(0), 13);
    }

    private static void hourAtItsBounds() {
        Check.part("24 from HOUR 0 on, up to 499");
        PlateRoom room = Rooms.of(11, 0);
        for (int k = 0; k < 10; k++) {
            room.want(k, 1, k == 0 ? 49 : 50, 499);
        }
        room.want(10, 1, 1, 500);
        Check.taken(room, "best()", room.best(), 11);
        Check.taken(room, "hour(0)", room.hour(0), 0);
        Check.taken(room, "hour(1)", room.hour(1), 49);
        Check.taken(room, "hour(9)", room.hour(9), 449);
        Check.taken(room, "hour(10)", room.hour(10), 499);
        room.want(10, 0, 2, 500);
        Check.refused(room, "an hour too long", room.hour(10), 8);
    }
}
