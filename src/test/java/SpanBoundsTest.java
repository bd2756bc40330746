/** The boundary cases of promises 12 to 16: what follows from the facts that are known on a day. */
public final class SpanBoundsTest {
    public static void main(String[] args) {
        spanOfWhat();
        timesOfWhat();
        noFacts();
        timesFrom0To100000();
        noEndAheadOfTheBeginning();
        factsThatDoNotAgree();
        justAgreeing();
        toldOnTheDay();
        crossedOutOnTheDay();
        quarrelOnWhatDay();
        quarrelOfNoFacts();
        quarrelOfFactsThatAgree();
        quarrelOfOneLimit();
        quarrelOfTwoLimits();
        quarrelCountsNoBounds();
        quarrelIsTheFewest();
        quarrelOfAllPlates();
        longestQuarrel();
        quarrelOfAllFacts();
        freesOfWhat();
        freesWhereAllAgree();
        freesWhatIsNotKnown();
        freesInThisOrder();
        freesOrNot();
        orderOfWhat();
        orderOfLikePlates();
        orderOfFactsThatDoNotAgree();
        orderAtTheBound();
        orderAtTheEndsOfTime();
        Check.finish();
    }

    /** Facts of two plates that quarrel from day 50 on, and up to day 59. */
    private static void quarrelling(PlateRoom room) {
        Rooms.fill(room, 3, 2);
        room.taken(0, 10, 20, 10);
        room.taken(0, 21, 30, 50);
        room.taken(1, 5, 6, 20);
        room.cross(1, 60);
        room.taken(1, 5, 7, 55);
    }

    private static void spanOfWhat() {
        Check.part("12 span");
        for (boolean greatest : new boolean[] {false, true}) {
            Bounds.which("span()", 3, SpanBoundsTest::quarrelling, (room, k) -> room.span(k, greatest, 0));
            Bounds.which("span()", 20, Rooms.with(20, 16), (room, k) -> room.span(k, greatest, 0));
            Bounds.day("span()", SpanBoundsTest::quarrelling, (room, day) -> room.span(0, greatest, day));
        }
    }

    private static void timesOfWhat() {
        Check.part("13 times");
        for (boolean greatest : new boolean[] {false, true}) {
            for (boolean end : new boolean[] {false, true}) {
                Bounds.which("times()", 2, SpanBoundsTest::quarrelling, (room, k) -> room.times(k, end, greatest, 0));
                Bounds.which("times()", 16, Rooms.with(20, 16), (room, k) -> room.times(k, end, greatest, 0));
                Bounds.day("times()", SpanBoundsTest::quarrelling, (room, day) -> room.times(0, end, greatest, day));
            }
        }
    }

    private static void noFacts() {
        Check.part("12 to 16 no FACTS");
        PlateRoom room = Rooms.of(20, 16);
        for (int day : new int[] {0, 1, 9998, 9999}) {
            for (int k = 0; k < 20; k += 19) {
                Check.taken(room, "span() least", room.span(k, false, day), 0);
                Check.taken(room, "span() greatest", room.span(k, true, day), 100000);
            }
            for (int k = 0; k < 16; k += 15) {
                Check.taken(room, "began least", room.times(k, false, false, day), 0);
                Check.taken(room, "began greatest", room.times(k, false, true, day), 100000);
                Check.taken(room, "ended least", room.times(k, true, false, day), 0);
                Check.taken(room, "ended greatest", room.times(k, true, true, day), 100000);
            }
            Check.refused(room, "quarrel()", room.quarrel(day), 6);
            Check.refused(room, "frees(0)", room.frees(0, day), 1);
            Check.taken(room, "order(0, 19)", room.order(0, 19, day), 1);
            Check.taken(room, "order(19, 0)", room.order(19, 0, day), 1);
        }
    }

    private static void timesFrom0To100000() {
        Check.part("12 and 13 TIMES go from 0 to 100,000");
        PlateRoom room = Rooms.of(3, 1);
        room.ahead(0, 1, 60000, 0);
        room.ahead(1, 2, 40000, 0);
        Check.taken(room, "greatest of 0", room.span(0, true, 0), 0);
        Check.taken(room, "least of 1", room.span(1, false, 0), 60000);
        Check.taken(room, "greatest of 1", room.span(1, true, 0), 60000);
        Check.taken(room, "least of 2", room.span(2, false, 0), 100000);
        room.shows(2, 0, 0);
        Check.taken(room, "ended, least", room.times(0, true, false, 0), 100000);
        Check.taken(room, "began, greatest", room.times(0, false, true, 0), 100000);
        room.ahead(1, 2, 40001, 1);
        Check.refused(room, "one more than all", room.span(1, true, 1), 5);
        Check.taken(room, "two limits", room.quarrel(1), 2);
        room.cross(3, 2);
        room.ahead(1, 2, 39999, 2);
        Check.taken(room, "one less is no less", room.span(1, true, 2), 60000);
        room.cross(1, 3);
        Check.taken(room, "one less", room.span(1, true, 3), 60001);
        Check.taken(room, "one less", room.span(0, true, 3), 1);
    }

    private static void noEndAheadOfTheBeginning() {
        Check.part("13 a MOTIF does not end ahead of its beginning");
        PlateRoom room = Rooms.of(0, 2);
        room.stood(0, false, 50, 60, 0);
        Check.taken(room, "ended, least", room.times(0, true, false, 0), 50);
        room.stood(0, true, 50, 50, 1);
        Check.refused(room, "at its beginning", room.quarrel(1), 6);
        Check.taken(room, "began, greatest", room.times(0, false, true, 1), 50);
        room.stood(0, true, 0, 49, 2);
        room.cross(1, 2);
        Check.refused(room, "one ahead of its beginning", room.times(0, true, true, 2), 5);
        Check.taken(room, "two limits", room.quarrel(2), 2);
        room.cross(2, 3);
        room.stood(0, true, 51, 51, 3);
        Check.taken(room, "one behind its beginning", room.times(0, false, true, 3), 51);
        room.stood(1, true, 10, 10, 3);
        Check.taken(room, "by its end alone", room.times(1, false, true, 3), 10);
        Check.taken(room, "by its end alone", room.times(1, false, false, 3), 0);
    }

    private static void factsThatDoNotAgree() {
        Check.part("12, 13 and 16 FACTS don't AGREE");
        for (int day : new int[] {50, 51, 59}) {
            for (boolean greatest : new boolean[] {false, true}) {
                Twins.refused("span(0)", 5, SpanBoundsTest::quarrelling, room -> room.span(0, greatest, day));
                Twins.refused("span(2)", 5, SpanBoundsTest::quarrelling, room -> room.span(2, greatest, day));
                Twins.refused("times(1)", 5, SpanBoundsTest::quarrelling, room -> room.times(1, false, greatest, day));
                Twins.refused("times(1)", 5, SpanBoundsTest::quarrelling, room -> room.times(1, true, greatest, day));
            }
            Twins.refused("order(2, 1)", 5, SpanBoundsTest::quarrelling, room -> room.order(2, 1, day));
        }
        PlateRoom room = new PlateRoom();
        quarrelling(room);
        Check.taken(room, "span(0) on 49", room.span(0, true, 49), 20);
        Check.taken(room, "span(0) on 60", room.span(0, true, 60), 20);
        Check.taken(room, "times(1) on 49", room.times(1, true, true, 49), 100000);
        Check.taken(room, "times(1) on 60", room.times(1, true, true, 60), 100000);
        Check.taken(room, "order(2, 1) on 49", room.order(2, 1, 49), 1);
        Check.taken(room, "order(2, 1) on 60", room.order(2, 1, 60), 1);
    }

    private static void justAgreeing() {
        Check.part("12 and 14 FACTS that just AGREE, and that just don't");
        PlateRoom room = Rooms.of(2, 0);
        room.taken(0, 10, 20, 0);
        room.taken(0, 20, 30, 1);
        Check.taken(room, "one time is left", room.span(0, false, 1), 20);
        Check.taken(room, "one time is left", room.span(0, true, 1), 20);
        room.taken(1, 30, 40, 1);
        room.ahead(1, 0, -10, 2);
        Check.taken(room, "one time is left", room.span(1, true, 2), 30);
        room.ahead(1, 0, -9, 3);
        Check.refused(room, "none is left", room.span(1, true, 3), 5);
        Check.taken(room, "three limits", room.quarrel(3), 3);
    }

    private static void toldOnTheDay() {
        Check.part("12 to 16 TOLD on the DAY or ahead");
        for (int day : new int[] {1, 5000, 9999}) {
            PlateRoom room = Rooms.of(2, 1);
            room.taken(0, 7, 7, day);
            room.stood(0, true, 8, 8, day);
            room.ahead(0, 1, 1, day);
            Check.taken(room, "span a day ahead", room.span(0, true, day - 1), 100000);
            Check.taken(room, "span on the day", room.span(0, true, day), 7);
            Check.taken(room, "times a day ahead", room.times(0, true, true, day - 1), 100000);
            Check.taken(room, "times on the day", room.times(0, true, true, day), 8);
            Check.taken(room, "order a day ahead", room.order(0, 1, day - 1), 1);
            Check.taken(room, "order on the day", room.order(0, 1, day), 2);
            room.taken(0, 9, 9, day);
            Check.refused(room, "quarrel a day ahead", room.quarrel(day - 1), 6);
            Check.taken(room, "quarrel on the day", room.quarrel(day), 2);
        }
        PlateRoom room = Rooms.of(1, 0);
        room.taken(0, 7, 7, 0);
        Check.taken(room, "told on day 0, known on it", room.span(0, true, 0), 7);
        Check.taken(room, "and on the last", room.span(0, true, 9999), 7);
    }

    private static void crossedOutOnTheDay() {
        Check.part("12 to 16 not CROSSED OUT on the DAY or ahead");
        for (int day : new int[] {1, 5000, 9999}) {
            PlateRoom room = Rooms.of(2, 1);
            room.taken(0, 7, 7, 0);
            room.stood(0, true, 8, 8, 0);
            room.ahead(0, 1, 1, 0);
            for (int k = 0; k < 3; k++) {
                room.cross(k, day);
            }
            Check.taken(room, "span a day ahead", room.span(0, true, day - 1), 7);
            Check.taken(room, "span on the day", room.span(0, true, day), 100000);
            Check.taken(room, "times a day ahead", room.times(0, true, true, day - 1), 8);
            Check.taken(room, "times on the day", room.times(0, true, true, day), 100000);
            Check.taken(room, "order a day ahead", room.order(0, 1, day - 1), 2);
            Check.taken(room, "order on the day", room.order(0, 1, day), 1);
            room.taken(0, 9, 9, 0);
            Check.taken(room, "quarrel a day ahead", room.quarrel(day - 1), 2);
            Check.refused(room, "quarrel on the day", room.quarrel(day), 6);
        }
    }

    private static void quarrelOnWhatDay() {
        Check.part("14 quarrel");
        Bounds.day("quarrel()", room -> {
            Rooms.fill(room, 1, 0);
            room.taken(0, 0, 0, 0);
            room.taken(0, 1, 1, 0);
        }, (room, day) -> room.quarrel(day));
        Twins.refused("quarrel(10000) of none", 2, Rooms.with(0, 0), room -> room.quarrel(10000));
        Twins.refused("quarrel(-1) of none", 2, Rooms.with(0, 0), room -> room.quarrel(-1));
    }

    private static void quarrelOfNoFacts() {
        Check.part("14 no FACTS AGREE");
        Twins.refused("quarrel(0) of no plates", 6, Rooms.with(0, 0), room -> room.quarrel(0));
        Twins.refused("quarrel(9999)", 6, Rooms.with(20, 16), room -> room.quarrel(9999));
    }

    private static void quarrelOfFactsThatAgree() {
        Check.part("14 they AGREE");
        for (int day : new int[] {0, 49, 60, 9999}) {
            Twins.refused("quarrel(" + day + ")", 6, SpanBoundsTest::quarrelling, room -> room.quarrel(day));
        }
        PlateRoom room = new PlateRoom();
        quarrelling(room);
        Check.taken(room, "quarrel(50)", room.quarrel(50), 2);
        Check.taken(room, "quarrel(59)", room.quarrel(59), 2);
    }

    private static void quarrelOfOneLimit() {
        Check.part("14 no LIMIT quarrels alone, with its greatest number");
        PlateRoom room = Rooms.of(2, 1);
        room.ahead(0, 1, 100000, 0);
        room.ahead(1, 0, -100000, 0);
        room.stood(0, false, 100000, 100000, 0);
        room.shows(1, 0, 0);
        Check.refused(room, "quarrel()", room.quarrel(0), 6);
        Check.taken(room, "began", room.times(0, false, false, 0), 100000);
    }

    private static void quarrelOfTwoLimits() {
        Check.part("14 two LIMITS");
        PlateRoom room = Rooms.of(2, 0);
        room.ahead(0, 1, 1, 0);
        room.ahead(1, 0, -1, 0);
        Check.refused(room, "just not", room.quarrel(0), 6);
        room.ahead(1, 0, 0, 1);
        Check.taken(room, "just", room.quarrel(1), 2);
        room.cross(2, 2);
        room.ahead(0, 1, 100000, 2);
        room.taken(1, 0, 99999, 2);
        Check.taken(room, "with the bound 0", room.quarrel(2), 2);
        room.cross(4, 3);
        room.taken(0, 1, 100000, 3);
        Check.taken(room, "with the bound 100,000", room.quarrel(3), 2);
    }

    private static void quarrelCountsNoBounds() {
        Check.part("14 beside the bounds, and that no MOTIF ends ahead of its beginning");
        PlateRoom room = Rooms.of(2, 1);
        room.shows(0, 0, 0);
        room.shows(1, 0, 0);
        room.stood(0, true, 0, 10, 0);
        room.taken(1, 11, 20, 0);
        Check.taken(room, "through its end alone", room.quarrel(0), 3);
        room.cross(3, 1);
        room.stood(0, false, 11, 20, 1);
        Check.taken(room, "its beginning behind its end", room.quarrel(1), 2);
        room = Rooms.of(4, 0);
        room.ahead(0, 1, 50000, 0);
        room.ahead(1, 2, 50000, 0);
        Check.refused(room, "as long as all", room.quarrel(0), 6);
        room.ahead(2, 3, 1, 0);
        Check.taken(room, "longer than all", room.quarrel(0), 3);
    }

    private static void quarrelIsTheFewest() {
        Check.part("14 the fewest LIMITS of several quarrels");
        PlateRoom room = Rooms.of(6, 0);
        for (int k = 0; k < 5; k++) {
            room.ahead(k, k + 1, 1, 0);
        }
        for (int k = 5; k >= 1; k--) {
            room.ahead(k, 0, 0, 10 - k);
            Check.taken(room, "back from " + k, room.quarrel(10 - k), k + 1);
        }
        Check.taken(room, "as known on day 5", room.quarrel(5), 6);
        Check.refused(room, "as known on day 4", room.quarrel(4), 6);
    }

    private static void quarrelOfAllPlates() {
        Check.part("14 a QUARREL of 21 LIMITS among 20 PLATES");
        PlateRoom room = Rooms.of(20, 0);
        for (int k = 0; k < 19; k++) {
            room.ahead(k, k + 1, 1, 0);
        }
        room.taken(0, 100, 200, 0);
        room.taken(19, 0, 119, 0);
        Check.refused(room, "just not", room.quarrel(0), 6);
        Check.taken(room, "greatest of 0", room.span(0, true, 0), 100);
        room.taken(19, 0, 118, 1);
        Check.taken(room, "just", room.quarrel(1), 21);
    }

    private static void longestQuarrel() {
        Check.part("14 the longest QUARREL: 23 LIMITS");
        // From the end of a motif over all plates to the beginning of another one.
        PlateRoom room = Rooms.of(20, 16);
        room.stood(15, true, 0, 100, 0);
        room.shows(19, 15, 0);
        for (int k = 0; k < 19; k++) {
            room.ahead(k, k + 1, 1, 0);
        }
        room.shows(0, 14, 0);
        room.stood(14, false, 81, 200, 0);
        Check.refused(room, "just not", room.quarrel(0), 6);
        Check.taken(room, "one time is left", room.times(14, false, true, 0), 81);
        Check.taken(room, "one time is left", room.times(15, true, false, 0), 100);
        room.stood(14, false, 82, 200, 1);
        Check.taken(room, "just", room.quarrel(1), 23);
        for (int k = 0; k < 24; k++) {
            Check.taken(room, "frees(" + k + ")", room.frees(k, 1), k == 22 ? 0 : 1);
        }
    }

    private static void quarrelOfAllFacts() {
        Check.part("14 the hundredth FACT counts, both of its LIMITS");
        for (int kind = 0; kind < 2; kind++) {
            PlateRoom room = Rooms.of(20, 16);
            for (int k = 0; k < 99; k++) {
                room.taken(k % 20, 1000, 2000, 0);
            }
            Check.refused(room, "ninety-nine agree", room.quarrel(0), 6);
            room.taken(19, kind == 0 ? 0 : 2001, kind == 0 ? 999 : 3000, 0);
            Check.taken(room, "a hundred don't", room.quarrel(0), 2);
            Check.taken(room, "frees(99)", room.frees(99, 0), 1);
            Check.taken(room, "frees(98)", room.frees(98, 0), 0);
            Check.refused(room, "frees(100)", room.frees(100, 0), 1);
        }
    }

    private static void freesOfWhat() {
        Check.part("15 frees");
        Bounds.which("frees()", 2, room -> {
            Rooms.fill(room, 1, 0);
            room.taken(0, 0, 0, 0);
            room.taken(0, 1, 1, 0);
        }, (room, k) -> room.frees(k, 0));
        Bounds.day("frees()", room -> {
            Rooms.fill(room, 1, 0);
            room.taken(0, 0, 0, 0);
            room.taken(0, 1, 1, 0);
        }, (room, day) -> room.frees(0, day));
    }

    private static void freesWhereAllAgree() {
        Check.part("15 all AGREE");
        for (int day : new int[] {0, 49, 60, 9999}) {
            Twins.refused("frees(0, " + day + ")", 6, SpanBoundsTest::quarrelling, room -> room.frees(0, day));
        }
        PlateRoom room = new PlateRoom();
        quarrelling(room);
        Check.taken(room, "frees(0, 50)", room.frees(0, 50), 1);
        Check.taken(room, "frees(0, 59)", room.frees(0, 59), 1);
    }

    private static void freesWhatIsNotKnown() {
        Check.part("15 it is not known then");
        PlateRoom room = new PlateRoom();
        quarrelling(room);
        room.taken(0, 0, 9, 57);
        room.cross(2, 58);
        Check.refused(room, "told a day behind", room.frees(3, 54), 8);
        Check.taken(room, "told on the day", room.frees(3, 55), 0);
        Check.taken(room, "crossed out a day behind", room.frees(2, 57), 0);
        Check.refused(room, "crossed out on the day", room.frees(2, 58), 8);
        Check.refused(room, "crossed out ahead", room.frees(2, 59), 8);
        Twins.refused("frees(3, 54)", 8, SpanBoundsTest::quarrelling, twin -> twin.frees(3, 54));
    }

    private static void freesInThisOrder() {
        Check.part("15 1; 2; 6; 8; in this order");
        Twins.refused("no fact, no day", 1, SpanBoundsTest::quarrelling, room -> room.frees(4, 10000));
        Twins.refused("no fact, all agree", 1, SpanBoundsTest::quarrelling, room -> room.frees(4, 0));
        Twins.refused("no fact, they quarrel", 1, SpanBoundsTest::quarrelling, room -> room.frees(4, 50));
        Twins.refused("no day, all agree", 2, SpanBoundsTest::quarrelling, room -> room.frees(1, -1));
        Twins.refused("all agree, not told", 6, SpanBoundsTest::quarrelling, room -> room.frees(1, 49));
        Twins.refused("all agree, crossed out", 6, SpanBoundsTest::quarrelling, room -> room.frees(1, 60));
        Twins.refused("they quarrel, not told", 8, SpanBoundsTest::quarrelling, room -> room.frees(3, 50));
    }

    private static void freesOrNot() {
        Check.part("15 1 or 0");
        PlateRoom room = Rooms.of(2, 0);
        room.taken(0, 10, 10, 0);
        room.taken(0, 11, 11, 0);
        room.taken(1, 10, 10, 0);
        Check.taken(room, "frees(0)", room.frees(0, 0), 1);
        Check.taken(room, "frees(1)", room.frees(1, 0), 1);
        Check.taken(room, "frees(2)", room.frees(2, 0), 0);
        room.taken(1, 11, 11, 1);
        for (int k = 0; k < 4; k++) {
            Check.taken(room, "two quarrels", room.frees(k, 1), 0);
        }
        room.cross(3, 2);
        Check.taken(room, "one quarrel again", room.frees(0, 2), 1);
    }

    private static void orderOfWhat() {
        Check.part("16 order");
        Bounds.which("order() of a", 2, Rooms.with(3, 0), (room, k) -> room.order(k, 2, 0));
        Bounds.which("order() of b", 2, Rooms.with(3, 0), (room, k) -> room.order(2, k, 0));
        Bounds.which("order() of a", 19, Rooms.with(20, 0), (room, k) -> room.order(k, 19, 0));
        Twins.refused("order(20, 19)", 1, Rooms.with(20, 0), room -> room.order(20, 19, 0));
        Twins.refused("order(19, 20)", 1, Rooms.with(20, 0), room -> room.order(19, 20, 0));
        Bounds.day("order()", Rooms.with(3, 0), (room, day) -> room.order(0, 1, day));
    }

    private static void orderOfLikePlates() {
        Check.part("16 like PLATES");
        Twins.refused("order(0, 0)", 1, SpanBoundsTest::quarrelling, room -> room.order(0, 0, 0));
        Twins.refused("order(2, 2)", 1, SpanBoundsTest::quarrelling, room -> room.order(2, 2, 0));
        Twins.refused("order(2, 2) on no day", 1, SpanBoundsTest::quarrelling, room -> room.order(2, 2, -1));
        Twins.refused("order(2, 2) in a quarrel", 1, SpanBoundsTest::quarrelling, room -> room.order(2, 2, 50));
    }

    private static void orderOfFactsThatDoNotAgree() {
        Check.part("16 FACTS don't AGREE");
        Twins.refused("no day in a quarrel", 2, SpanBoundsTest::quarrelling, room -> room.order(0, 1, 10000));
        Twins.refused("a quarrel", 5, SpanBoundsTest::quarrelling, room -> room.order(0, 1, 50));
        Twins.refused("a quarrel of others", 5, room -> {
            quarrelling(room);
            room.plate();
        }, room -> room.order(2, 3, 50));
    }

    private static void orderAtTheBound() {
        Check.part("16 for certain, can have been, or not");
        PlateRoom room = Rooms.of(2, 0);
        room.taken(0, 10, 20, 0);
        room.taken(1, 21, 30, 1);
        Check.taken(room, "just ahead", room.order(0, 1, 1), 2);
        Check.taken(room, "just behind", room.order(1, 0, 1), 0);
        room.cross(1, 2);
        room.taken(1, 20, 30, 2);
        Check.taken(room, "ahead, or at one time", room.order(0, 1, 2), 1);
        Check.taken(room, "at one time, or behind", room.order(1, 0, 2), 0);
        room.cross(2, 3);
        room.taken(1, 19, 30, 3);
        Check.taken(room, "either", room.order(1, 0, 3), 1);
        room.same(0, 1, 4);
        Check.taken(room, "at one time", room.order(0, 1, 4), 0);
        Check.taken(room, "at one time", room.order(1, 0, 4), 0);
    }

    private static void orderAtTheEndsOfTime() {
        Check.part("16 none ahead of 0, none behind 100,000");
        PlateRoom room = Rooms.of(3, 0);
        room.taken(0, 0, 0, 0);
        room.taken(2, 100000, 100000, 0);
        Check.taken(room, "ahead of 0", room.order(1, 0, 0), 0);
        Check.taken(room, "behind 0, or at it", room.order(0, 1, 0), 1);
        Check.taken(room, "behind 100,000", room.order(2, 1, 0), 0);
        Check.taken(room, "ahead of 100,000, or at it", room.order(1, 2, 0), 1);
        Check.taken(room, "0 and 100,000", room.order(0, 2, 0), 2);
        room.taken(1, 1, 99999, 1);
        Check.taken(room, "behind 0", room.order(0, 1, 1), 2);
        Check.taken(room, "ahead of 100,000", room.order(1, 2, 1), 2);
    }
}
