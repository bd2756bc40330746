/** Promises 22 to 27: copies ahead of loss, and what may be shown. */
public final class CopiesAndRightsTest {
    public static void main(String[] args) {
        want();
        best();
        noneInTime();
        bestOfSeveral();
        hour();
        law();
        death();
        free();
        Check.finish();
    }

    private static PlateRoom room(int plates) {
        PlateRoom room = new PlateRoom();
        for (int k = 0; k < plates; k++) {
            room.plate();
        }
        return room;
    }

    private static void want() {
        Check.part("22 want");
        PlateRoom room = room(2);
        for (int wrong : new int[] {-1, 2, 20, Integer.MIN_VALUE, Integer.MAX_VALUE}) {
            Check.refused(room, "want() of no plate", room.want(wrong, -1, 0, 0), 1);
        }
        for (int wrong : new int[] {-1, 100, Integer.MIN_VALUE, Integer.MAX_VALUE}) {
            Check.refused(room, "no such wish", room.want(0, wrong, 1, 1), 2);
        }
        for (int wrong : new int[] {0, -1, 51, Integer.MIN_VALUE, Integer.MAX_VALUE}) {
            Check.refused(room, "no such hours", room.want(0, 1, wrong, 1), 2);
        }
        for (int wrong : new int[] {0, -1, 501, Integer.MIN_VALUE, Integer.MAX_VALUE}) {
            Check.refused(room, "no such loss", room.want(0, 1, 1, wrong), 2);
        }
        Check.due("nothing has changed", room.best(), 0);
        Check.due("nothing has changed", room.hour(1), 1);
        Check.taken(room, "want() most", room.want(0, 99, 50, 500));
        Check.taken(room, "want() least", room.want(1, 0, 1, 1));
        Check.taken(room, "best()", room.best(), 99);
        Check.taken(room, "hour(0)", room.hour(0), 1);
        Check.taken(room, "want() again", room.want(0, 98, 50, 49));
        Check.taken(room, "best()", room.best(), 0);
    }

    private static void best() {
        Check.part("23 best");
        PlateRoom room = new PlateRoom();
        Check.taken(room, "best() of none", room.best(), 0);
        room = room(4);
        room.want(0, 10, 5, 5);
        Check.taken(room, "just in time", room.best(), 10);
        room.want(0, 10, 6, 5);
        Check.taken(room, "not in time", room.best(), 0);
        room.want(0, 10, 5, 5);
        room.want(1, 11, 5, 9);
        Check.taken(room, "one of two", room.best(), 11);
        room.want(1, 11, 5, 10);
        Check.taken(room, "both", room.best(), 21);
        room.want(2, 12, 6, 10);
        Check.taken(room, "one long one is less than two", room.best(), 21);
        room.want(2, 22, 6, 10);
        Check.taken(room, "one long one is more than two", room.best(), 22);
        // The most wanted one for each hour is not in the best set.
        room.want(0, 60, 6, 10);
        room.want(1, 40, 5, 10);
        room.want(2, 40, 5, 10);
        room.want(3, 0, 50, 1);
        Check.taken(room, "by the whole, not by the hour", room.best(), 80);
        room = room(20);
        for (int k = 0; k < 20; k++) {
            room.want(k, 99, 25, 500);
        }
        Check.taken(room, "all", room.best(), 1980);
        room.want(19, 99, 26, 500);
        Check.taken(room, "all but one", room.best(), 1881);
        Check.refused(room, "the long one is left", room.hour(19), 8);
        room.want(3, 98, 25, 500);
        Check.refused(room, "the less wanted one is left", room.hour(3), 8);
        Check.taken(room, "the long one is in it", room.hour(19), 450);
        Check.taken(room, "best()", room.best(), 1881);
    }

    private static void noneInTime() {
        Check.part("23 none in time");
        PlateRoom room = room(20);
        for (int k = 0; k < 20; k++) {
            room.want(k, 99, 50, 49);
        }
        Check.taken(room, "best()", room.best(), 0);
        for (int k = 0; k < 20; k++) {
            Check.refused(room, "hour(" + k + ")", room.hour(k), 8);
        }
        room.want(19, 0, 1, 1);
        Check.taken(room, "best()", room.best(), 0);
        Check.taken(room, "hour(19)", room.hour(19), 0);
    }

    private static void bestOfSeveral() {
        Check.part("23 the best of several");
        PlateRoom room = room(4);
        room.want(0, 5, 2, 2);
        room.want(1, 5, 2, 2);
        room.want(2, 0, 1, 3);
        room.want(3, 0, 1, 3);
        Check.taken(room, "best()", room.best(), 5);
        Check.taken(room, "hour(0)", room.hour(0), 0);
        Check.refused(room, "hour(1)", room.hour(1), 8);
        Check.taken(room, "hour(2)", room.hour(2), 2);
        Check.refused(room, "hour(3)", room.hour(3), 8);
        // One with a lesser number outweighs many with greater ones.
        room.want(0, 6, 3, 3);
        room.want(1, 2, 1, 3);
        room.want(2, 2, 1, 3);
        room.want(3, 2, 1, 3);
        Check.taken(room, "best()", room.best(), 6);
        Check.taken(room, "hour(0)", room.hour(0), 0);
        Check.refused(room, "hour(1)", room.hour(1), 8);
        // Of {0, 1} and {0, 2, 3} the first.
        room.want(0, 3, 1, 4);
        room.want(1, 4, 3, 4);
        Check.taken(room, "best()", room.best(), 7);
        Check.taken(room, "hour(1)", room.hour(1), 1);
        Check.refused(room, "hour(2)", room.hour(2), 8);
        room.want(0, 4, 2, 4);
        room.want(1, 4, 2, 4);
        room.want(2, 4, 2, 4);
        room.want(3, 4, 2, 4);
        Check.taken(room, "best()", room.best(), 8);
        Check.taken(room, "hour(0)", room.hour(0), 0);
        Check.taken(room, "hour(1)", room.hour(1), 2);
        room.want(1, 3, 2, 4);
        Check.taken(room, "hour(2)", room.hour(2), 2);
        Check.refused(room, "hour(1)", room.hour(1), 8);
    }

    private static void hour() {
        Check.part("24 hour");
        PlateRoom room = room(4);
        for (int wrong : new int[] {-1, 4, 20, Integer.MIN_VALUE, Integer.MAX_VALUE}) {
            Check.refused(room, "hour() of no plate", room.hour(wrong), 1);
        }
        room.want(0, 1, 7, 100);
        room.want(1, 1, 5, 90);
        room.want(2, 1, 3, 100);
        room.want(3, 1, 50, 49);
        Check.taken(room, "hour(1)", room.hour(1), 0);
        Check.taken(room, "hour(0)", room.hour(0), 5);
        Check.taken(room, "hour(2)", room.hour(2), 12);
        Check.refused(room, "hour(3)", room.hour(3), 8);
        room.want(3, 1, 50, 50);
        Check.taken(room, "hour(3)", room.hour(3), 0);
        Check.taken(room, "hour(1)", room.hour(1), 50);
        Check.taken(room, "hour(2)", room.hour(2), 62);
        Check.taken(room, "best() behind hour()", room.best(), 4);
    }

    private static void law() {
        Check.part("25 law");
        PlateRoom room = room(1);
        room.death(0, 0, 0);
        for (int wrong : new int[] {-1, 100001, Integer.MIN_VALUE, Integer.MAX_VALUE}) {
            Check.refused(room, "no such day", room.law(wrong, 0), 2);
        }
        for (int wrong : new int[] {-1, 50001, Integer.MIN_VALUE, Integer.MAX_VALUE}) {
            Check.refused(room, "no such days", room.law(0, wrong), 2);
        }
        Check.taken(room, "free() by no law", room.free(0, 200000, 0), 0);
        Check.taken(room, "law()", room.law(100000, 50000));
        Check.taken(room, "free() ahead of the law", room.free(0, 99999, 0), 0);
        Check.taken(room, "free() by the law", room.free(0, 100000, 0), 1);
        Check.taken(room, "law()", room.law(0, 0));
        Check.taken(room, "free() by the other law", room.free(0, 0, 0), 1);
        for (int k = 2; k < 10; k++) {
            Check.taken(room, "law()", room.law(k, 50000));
        }
        Check.refused(room, "one too many", room.law(0, 0), 3);
        Check.refused(room, "one too many, no such days", room.law(0, 50001), 2);
        Check.taken(room, "the tenth counts", room.free(0, 9, 0), 0);
        Check.taken(room, "the first day counts", room.free(0, 1, 0), 1);
    }

    private static void death() {
        Check.part("26 death");
        PlateRoom room = room(2);
        room.law(0, 10);
        for (int wrong : new int[] {-1, 2, 20, Integer.MIN_VALUE, Integer.MAX_VALUE}) {
            Check.refused(room, "death() of no plate", room.death(wrong, -1, -1), 1);
        }
        for (int wrong : new int[] {-1, 100001, Integer.MIN_VALUE, Integer.MAX_VALUE}) {
            Check.refused(room, "no such death", room.death(0, wrong, 0), 2);
        }
        for (int wrong : new int[] {-1, 10000, Integer.MIN_VALUE, Integer.MAX_VALUE}) {
            Check.refused(room, "told on no day", room.death(0, 0, wrong), 2);
        }
        Check.taken(room, "none is known", room.free(0, 200000, 9999), 0);
        Check.taken(room, "death()", room.death(0, 100000, 9999));
        Check.taken(room, "free()", room.free(0, 100010, 9999), 1);
        Check.taken(room, "free() ahead", room.free(0, 100009, 9999), 0);
        Check.taken(room, "free() as known ahead", room.free(0, 100010, 9998), 0);
        Check.taken(room, "free() of the other", room.free(1, 200000, 9999), 0);
        for (int k = 1; k < 60; k++) {
            Check.taken(room, "death()", room.death(k % 2, 10 * k, k));
        }
        Check.refused(room, "one too many", room.death(0, 0, 0), 3);
        Check.refused(room, "one too many of the other", room.death(1, 0, 0), 3);
        Check.refused(room, "one too many, no plate", room.death(2, 0, 0), 1);
        Check.refused(room, "one too many, no day", room.death(1, 0, 10000), 2);
        Check.taken(room, "the sixtieth counts", room.free(1, 599, 100), 0);
        Check.taken(room, "the sixtieth counts", room.free(1, 600, 100), 1);
    }

    private static void free() {
        Check.part("27 free");
        PlateRoom room = room(2);
        for (int wrong : new int[] {-1, 2, Integer.MIN_VALUE, Integer.MAX_VALUE}) {
            Check.refused(room, "free() of no plate", room.free(wrong, -1, -1), 1);
        }
        for (int wrong : new int[] {-1, 200001, Integer.MIN_VALUE, Integer.MAX_VALUE}) {
            Check.refused(room, "no such day", room.free(0, wrong, 0), 2);
        }
        for (int wrong : new int[] {-1, 10000, Integer.MIN_VALUE, Integer.MAX_VALUE}) {
            Check.refused(room, "known on no day", room.free(0, 0, wrong), 2);
        }
        room.law(500, 100);
        room.law(300, 20);
        room.law(500, 200);
        room.death(0, 290, 7);
        Check.taken(room, "ahead of all laws", room.free(0, 299, 9), 0);
        Check.taken(room, "too early by the first", room.free(0, 309, 9), 0);
        Check.taken(room, "by the first", room.free(0, 310, 9), 1);
        Check.taken(room, "by the first, last day", room.free(0, 499, 9), 1);
        room.death(0, 301, 6);
        Check.taken(room, "told later, known earlier", room.free(0, 310, 9), 1);
        Check.taken(room, "as known earlier", room.free(0, 310, 6), 0);
        Check.taken(room, "as known earlier", room.free(0, 321, 6), 1);
        room.death(0, 301, 7);
        Check.taken(room, "of one day the later call", room.free(0, 310, 9), 0);
        Check.taken(room, "of like laws the one told last", room.free(0, 500, 9), 0);
        Check.taken(room, "of like laws the one told last", room.free(0, 501, 9), 1);
        Check.taken(room, "the last day of all", room.free(0, 200000, 9999), 1);
        Check.taken(room, "no death known", room.free(1, 200000, 9999), 0);
    }
}
