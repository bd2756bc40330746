/** Promises 1 to 16: a new object, status, plates, motifs, facts, and what follows from facts. */
public final class TimesTest {
    private static final int[] WRONG_DAYS = {-1, 10000, Integer.MIN_VALUE, Integer.MAX_VALUE};
    private static final int[] WRONG_NUMBERS = {-1, 2, 20, 1000, Integer.MIN_VALUE, Integer.MAX_VALUE};

    public static void main(String[] args) {
        newObject();
        status();
        plates();
        motifs();
        shows();
        ahead();
        same();
        taken();
        stood();
        tooManyFacts();
        allLimits();
        cross();
        fact();
        span();
        times();
        quarrel();
        quarrelBeyondFacts();
        longQuarrel();
        shortestOfQuarrels();
        frees();
        order();
        knownOnADay();
        Check.finish();
    }

    private static PlateRoom room(int plates, int motifs) {
        PlateRoom room = new PlateRoom();
        for (int k = 0; k < plates; k++) {
            room.plate();
        }
        for (int k = 0; k < motifs; k++) {
            room.motif();
        }
        return room;
    }

    private static void newObject() {
        Check.part("1 a new object");
        PlateRoom room = new PlateRoom();
        Check.due("status()", room.status(), 0);
        Check.due("out(0)", room.out(0), -1);
        Check.due("NONE", PlateRoom.NONE, -1);
        Check.taken(room, "rows(0)", room.rows(0), 0);
        Check.taken(room, "best()", room.best(), 0);
        Check.refused(room, "span(0)", room.span(0, false, 0), 1);
        Check.refused(room, "times(0)", room.times(0, false, false, 0), 1);
        Check.refused(room, "fact(0)", room.fact(0, 0), 1);
        Check.refused(room, "hour(0)", room.hour(0), 1);
        Check.refused(room, "rows(1)", room.rows(1), 2);
        PlateRoom other = room(1, 0);
        other.death(0, 0, 0);
        Check.taken(other, "free() without laws", other.free(0, 200000, 9999), 0);
    }

    private static void status() {
        Check.part("2 status");
        PlateRoom room = new PlateRoom();
        room.span(0, true, 0);
        Check.due("status()", room.status(), 1);
        Check.due("status() again", room.status(), 1);
        room.out(0);
        room.out(-1);
        Check.due("status() behind out()", room.status(), 1);
        room.plate();
        Check.due("status() behind plate()", room.status(), 0);
        room.span(0, true, -1);
        Check.due("status() behind a wrong day", room.status(), 2);
        room.best();
        Check.due("status() behind best()", room.status(), 0);
        PlateRoom second = new PlateRoom();
        second.quarrel(0);
        Check.due("status() of the first", room.status(), 0);
        Check.due("status() of the second", second.status(), 6);
    }

    private static void plates() {
        Check.part("3 plate");
        PlateRoom room = new PlateRoom();
        for (int k = 0; k < 20; k++) {
            Check.taken(room, "plate()", room.plate(), k);
            Check.taken(room, "row() of it", room.row(1 << k), 1);
            Check.taken(room, "ring() of it", room.ring(1 << k), 0);
            Check.taken(room, "hour() of it", room.hour(k), k);
            Check.taken(room, "best()", room.best(), 0);
            Check.taken(room, "rows() of all", room.rows((2 << k) - 1), k + 1);
        }
        Check.refused(room, "plate() 20", room.plate(), 3);
        Check.refused(room, "plate() 20 again", room.plate(), 3);
        Check.refused(room, "span(20)", room.span(20, false, 0), 1);
        // Lost at 500, not at 499 or 501: nineteen fill 499 and 500 HOURS ahead of the last one.
        for (int k = 0; k < 19; k++) {
            room.want(k, 9, k < 9 ? 50 : 4, 499);
        }
        room.want(18, 9, 13, 499);
        Check.taken(room, "hour(19) behind 499", room.hour(19), 499);
        room.want(18, 9, 14, 500);
        Check.refused(room, "hour(19) behind 500", room.hour(19), 8);
    }

    private static void motifs() {
        Check.part("4 motif");
        PlateRoom room = new PlateRoom();
        for (int k = 0; k < 16; k++) {
            Check.taken(room, "motif()", room.motif(), k);
            Check.taken(room, "times()", room.times(k, true, true, 0), 100000);
        }
        Check.refused(room, "motif() 16", room.motif(), 3);
        Check.refused(room, "times(16)", room.times(16, true, true, 0), 1);
        Check.taken(room, "plate()", room.plate(), 0);
    }

    private static void shows() {
        Check.part("5 shows");
        PlateRoom room = room(2, 2);
        for (int wrong : WRONG_NUMBERS) {
            Check.refused(room, "shows() of no plate", room.shows(wrong, 0, -1), 1);
            Check.refused(room, "shows() of no motif", room.shows(0, wrong, 10000), 1);
        }
        for (int wrong : WRONG_DAYS) {
            Check.refused(room, "shows() on no day", room.shows(0, 0, wrong), 2);
        }
        Check.taken(room, "shows()", room.shows(1, 1, 9999), 0);
        Check.taken(room, "shows()", room.shows(1, 1, 0), 1);
        room.stood(1, false, 10, 20, 0);
        room.stood(1, true, 30, 40, 0);
        Check.taken(room, "span least", room.span(1, false, 0), 10);
        Check.taken(room, "span greatest", room.span(1, true, 0), 40);
        room.taken(1, 15, 35, 0);
        Check.taken(room, "began greatest", room.times(1, false, true, 0), 20);
        Check.taken(room, "ended least", room.times(1, true, false, 0), 30);
        Check.taken(room, "span of the other", room.span(0, true, 0), 100000);
    }

    private static void ahead() {
        Check.part("6 ahead");
        PlateRoom room = room(2, 1);
        for (int wrong : WRONG_NUMBERS) {
            Check.refused(room, "ahead() of no plate", room.ahead(wrong, 0, 200000, -1), 1);
            Check.refused(room, "ahead() of no plate", room.ahead(0, wrong, 0, 0), 1);
        }
        Check.refused(room, "ahead() of like ones", room.ahead(1, 1, 0, 10000), 1);
        for (int wrong : WRONG_DAYS) {
            Check.refused(room, "ahead() on no day", room.ahead(0, 1, 0, wrong), 2);
        }
        int[] wrongSteps = {100001, -100001, Integer.MIN_VALUE, Integer.MAX_VALUE};
        for (int wrong : wrongSteps) {
            Check.refused(room, "ahead() by a wrong n", room.ahead(0, 1, wrong, 0), 2);
        }
        Check.taken(room, "ahead() by -100000", room.ahead(0, 1, -100000, 0), 0);
        Check.taken(room, "span", room.span(0, true, 0), 100000);
        Check.taken(room, "ahead() by -7", room.ahead(0, 1, -7, 1), 1);
        room.taken(1, 50, 60, 1);
        Check.taken(room, "span greatest by -7", room.span(0, true, 1), 67);
        Check.taken(room, "span least by -7", room.span(0, false, 1), 0);
        Check.taken(room, "ahead() by 100000", room.ahead(0, 1, 100000, 9999), 3);
        room.cross(2, 9999);
        Check.taken(room, "span by 100000", room.span(0, true, 9999), 0);
        Check.taken(room, "span by 100000", room.span(1, false, 9999), 100000);
    }

    private static void same() {
        Check.part("7 same");
        PlateRoom room = room(3, 0);
        for (int wrong : new int[] {-1, 3, Integer.MIN_VALUE, Integer.MAX_VALUE}) {
            Check.refused(room, "same() of no plate", room.same(wrong, 0, -1), 1);
            Check.refused(room, "same() of no plate", room.same(0, wrong, 0), 1);
        }
        Check.refused(room, "same() of like ones", room.same(2, 2, 10000), 1);
        for (int wrong : WRONG_DAYS) {
            Check.refused(room, "same() on no day", room.same(0, 1, wrong), 2);
        }
        Check.taken(room, "same()", room.same(0, 1, 5), 0);
        Check.taken(room, "same()", room.same(2, 1, 5), 1);
        room.taken(0, 10, 100, 5);
        room.taken(2, 50, 200, 5);
        for (int k = 0; k < 3; k++) {
            Check.taken(room, "span least", room.span(k, false, 5), 50);
            Check.taken(room, "span greatest", room.span(k, true, 5), 100);
        }
    }

    private static void taken() {
        Check.part("8 taken");
        PlateRoom room = room(2, 0);
        for (int wrong : WRONG_NUMBERS) {
            Check.refused(room, "taken() of no plate", room.taken(wrong, 5, 4, -1), 1);
        }
        for (int wrong : WRONG_DAYS) {
            Check.refused(room, "taken() on no day", room.taken(0, 0, 0, wrong), 2);
        }
        Check.refused(room, "from below 0", room.taken(0, -1, 5, 0), 2);
        Check.refused(room, "to below 0", room.taken(0, -2, -1, 0), 2);
        Check.refused(room, "to above", room.taken(0, 5, 100001, 0), 2);
        Check.refused(room, "from above", room.taken(0, 100001, 100002, 0), 2);
        Check.refused(room, "from above to", room.taken(0, 8, 7, 0), 2);
        Check.refused(room, "far numbers", room.taken(0, Integer.MIN_VALUE, Integer.MAX_VALUE, 0), 2);
        Check.taken(room, "taken() at all times", room.taken(0, 0, 100000, 0), 0);
        Check.taken(room, "taken() at 0", room.taken(0, 0, 0, 1), 1);
        Check.taken(room, "taken() at 100000", room.taken(1, 100000, 100000, 1), 2);
        Check.taken(room, "span at 0", room.span(0, true, 1), 0);
        Check.taken(room, "span at 100000", room.span(1, false, 1), 100000);
        Check.taken(room, "span ahead", room.span(0, true, 0), 100000);
    }

    private static void stood() {
        Check.part("9 stood");
        PlateRoom room = room(1, 2);
        for (int wrong : WRONG_NUMBERS) {
            Check.refused(room, "stood() of no motif", room.stood(wrong, true, 5, 4, -1), 1);
        }
        for (int wrong : WRONG_DAYS) {
            Check.refused(room, "stood() on no day", room.stood(0, false, 0, 0, wrong), 2);
        }
        Check.refused(room, "from below 0", room.stood(0, true, -1, 5, 0), 2);
        Check.refused(room, "to above", room.stood(0, false, 5, 100001, 0), 2);
        Check.refused(room, "from above to", room.stood(0, true, 8, 7, 0), 2);
        Check.taken(room, "began", room.stood(1, false, 10, 20, 0), 0);
        Check.due("kind of began", room.fact(0, 0), 3);
        Check.taken(room, "began least", room.times(1, false, false, 0), 10);
        Check.taken(room, "began greatest", room.times(1, false, true, 0), 20);
        Check.taken(room, "ended least", room.times(1, true, false, 0), 10);
        Check.taken(room, "ended greatest", room.times(1, true, true, 0), 100000);
        Check.taken(room, "ended", room.stood(1, true, 12, 15, 0), 1);
        Check.due("kind of ended", room.fact(1, 0), 4);
        Check.taken(room, "began greatest", room.times(1, false, true, 0), 15);
        Check.taken(room, "ended least", room.times(1, true, false, 0), 12);
        Check.taken(room, "the other motif", room.times(0, false, true, 0), 100000);
    }

    private static void tooManyFacts() {
        Check.part("5 to 9 one too many");
        PlateRoom room = room(2, 1);
        for (int k = 0; k < 100; k++) {
            Check.taken(room, "fact", oneFact(room, k % 5, 0), k);
        }
        room.cross(3, 0);
        for (int kind = 0; kind < 5; kind++) {
            Check.refused(room, "one too many", oneFact(room, kind, 0), 3);
            Check.refused(room, "one too many, no day", oneFact(room, kind, -1), 2);
        }
        Check.refused(room, "one too many, no plate", room.shows(2, 0, 0), 1);
        Check.refused(room, "one too many, like plates", room.ahead(1, 1, 0, 0), 1);
        Check.refused(room, "fact(100)", room.fact(100, 0), 1);
        Check.due("fact(99)", room.fact(99, 0), 4);
        Check.taken(room, "span", room.span(1, true, 0), 100000);
    }

    private static int oneFact(PlateRoom room, int kind, int day) {
        switch (kind) {
            case 0:
                return room.shows(0, 0, day);
            case 1:
                return room.ahead(0, 1, 0, day);
            case 2:
                return room.same(0, 1, day);
            case 3:
                return room.taken(0, 0, 100000, day);
            default:
                return room.stood(0, true, 0, 100000, day);
        }
    }

    private static void allLimits() {
        Check.part("12 to 15 with all limits");
        PlateRoom room = room(20, 16);
        for (int k = 0; k < 99; k++) {
            room.taken(k % 20, k, 1000 + k, k);
        }
        room.taken(7, 500, 600, 99);
        Check.taken(room, "span least", room.span(7, false, 99), 500);
        Check.taken(room, "span greatest", room.span(7, true, 99), 600);
        Check.taken(room, "span of another", room.span(18, false, 99), 98);
        Check.taken(room, "span of another", room.span(18, true, 99), 1018);
        Check.refused(room, "no quarrel", room.quarrel(99), 6);
        room = room(20, 16);
        for (int k = 0; k < 99; k++) {
            room.stood(k % 16, k % 3 == 0, 10, 20, 0);
        }
        room.stood(15, true, 0, 9, 0);
        Check.taken(room, "a quarrel by the last", room.quarrel(0), 2);
        Check.taken(room, "frees(99)", room.frees(99, 0), 1);
        Check.taken(room, "frees(98)", room.frees(98, 0), 0);
    }

    private static void cross() {
        Check.part("10 cross");
        PlateRoom room = room(1, 0);
        Check.refused(room, "cross(0)", room.cross(0, 0), 1);
        room.taken(0, 5, 6, 10);
        room.taken(0, 4, 9, 10);
        for (int wrong : WRONG_NUMBERS) {
            Check.refused(room, "cross() of no fact", room.cross(wrong, -1), 1);
        }
        for (int wrong : WRONG_DAYS) {
            Check.refused(room, "cross() on no day", room.cross(0, wrong), 2);
        }
        Check.taken(room, "cross()", room.cross(0, 20));
        Check.refused(room, "cross() again", room.cross(0, 30), 4);
        Check.refused(room, "cross() again, no day", room.cross(0, 10000), 2);
        Check.due("fact(0, 2)", room.fact(0, 2), 20);
        Check.taken(room, "span ahead of it", room.span(0, true, 19), 6);
        Check.taken(room, "span on it", room.span(0, true, 20), 9);
        Check.taken(room, "cross() ahead of the telling", room.cross(1, 0));
        Check.taken(room, "span on it", room.span(0, true, 20), 100000);
        Check.taken(room, "span ahead of it", room.span(0, false, 10), 5);
    }

    private static void fact() {
        Check.part("11 fact");
        PlateRoom room = room(2, 1);
        Check.refused(room, "fact(0)", room.fact(0, 9), 1);
        room.shows(0, 0, 1);
        room.ahead(0, 1, 0, 2);
        room.taken(0, 0, 9, 3);
        room.stood(0, false, 0, 9, 4);
        room.stood(0, true, 0, 9, 5);
        room.same(0, 1, 6);
        room.cross(4, 0);
        for (int k = 0; k < 6; k++) {
            Check.taken(room, "kind", room.fact(k, 0), k);
            Check.taken(room, "told", room.fact(k, 1), k + 1);
            Check.taken(room, "crossed", room.fact(k, 2), k == 4 ? 0 : -1);
            Check.taken(room, "limits", room.fact(k, 3), k == 1 ? 1 : 2);
        }
        for (int wrong : new int[] {-1, 4, Integer.MIN_VALUE, Integer.MAX_VALUE}) {
            Check.refused(room, "fact() of no what", room.fact(5, wrong), 2);
        }
        for (int wrong : new int[] {-1, 6, Integer.MIN_VALUE, Integer.MAX_VALUE}) {
            Check.refused(room, "fact() of no fact", room.fact(wrong, wrong), 1);
        }
    }

    private static void span() {
        Check.part("12 span");
        PlateRoom room = room(3, 0);
        for (int wrong : new int[] {-1, 3, Integer.MIN_VALUE, Integer.MAX_VALUE}) {
            Check.refused(room, "span() of no plate", room.span(wrong, true, -1), 1);
        }
        for (int wrong : WRONG_DAYS) {
            Check.refused(room, "span() on no day", room.span(0, true, wrong), 2);
        }
        room.ahead(0, 1, 10, 0);
        room.ahead(1, 2, 20, 0);
        Check.taken(room, "span(0) greatest", room.span(0, true, 0), 99970);
        Check.taken(room, "span(1) least", room.span(1, false, 0), 10);
        Check.taken(room, "span(1) greatest", room.span(1, true, 0), 99980);
        Check.taken(room, "span(2) least", room.span(2, false, 0), 30);
        room.taken(2, 0, 29, 7);
        Check.refused(room, "span() of what quarrels", room.span(0, true, 7), 5);
        Check.refused(room, "span() of what quarrels", room.span(0, false, 7), 5);
        Check.refused(room, "no plate ahead of a quarrel", room.span(3, false, 7), 1);
        Check.refused(room, "no day ahead of a quarrel", room.span(0, false, 10000), 2);
        Check.taken(room, "span() ahead of it", room.span(0, false, 6), 0);
    }

    private static void times() {
        Check.part("13 times");
        PlateRoom room = room(1, 2);
        for (int wrong : WRONG_NUMBERS) {
            Check.refused(room, "times() of no motif", room.times(wrong, true, false, -1), 1);
        }
        for (int wrong : WRONG_DAYS) {
            Check.refused(room, "times() on no day", room.times(0, true, false, wrong), 2);
        }
        for (int k = 0; k < 4; k++) {
            Check.taken(room, "times()", room.times(k % 2, k > 1, false, 0), 0);
            Check.taken(room, "times()", room.times(k % 2, k > 1, true, 0), 100000);
        }
        room.stood(0, false, 40, 50, 1);
        Check.taken(room, "ended least", room.times(0, true, false, 1), 40);
        room.stood(0, true, 0, 45, 2);
        Check.taken(room, "began greatest", room.times(0, false, true, 2), 45);
        room.stood(1, false, 10, 100000, 2);
        Check.taken(room, "ended least by the beginning alone", room.times(1, true, false, 2), 10);
        room.stood(0, true, 0, 39, 3);
        Check.refused(room, "times() of what quarrels", room.times(1, true, true, 3), 5);
    }

    private static void quarrel() {
        Check.part("14 quarrel");
        PlateRoom room = room(3, 1);
        for (int wrong : WRONG_DAYS) {
            Check.refused(room, "quarrel() on no day", room.quarrel(wrong), 2);
        }
        Check.refused(room, "quarrel() of none", room.quarrel(0), 6);
        room.taken(0, 10, 20, 0);
        Check.refused(room, "quarrel() of one", room.quarrel(0), 6);
        room.taken(0, 21, 30, 1);
        Check.taken(room, "two spans", room.quarrel(1), 2);
        room.cross(1, 2);
        Check.refused(room, "one is crossed out", room.quarrel(2), 6);
        room.shows(0, 0, 2);
        room.shows(1, 0, 2);
        room.stood(0, false, 50, 60, 2);
        Check.taken(room, "began behind it", room.quarrel(2), 3);
        room.cross(0, 3);
        room.ahead(0, 1, 1, 3);
        Check.refused(room, "all agree", room.quarrel(3), 6);
        room.ahead(1, 2, 1, 4);
        room.same(0, 2, 4);
        Check.taken(room, "two ahead and a half of same", room.quarrel(4), 3);
    }

    private static void quarrelBeyondFacts() {
        Check.part("14 quarrel with what is no limit");
        PlateRoom room = room(3, 1);
        room.stood(0, false, 50, 60, 0);
        room.stood(0, true, 40, 49, 0);
        Check.taken(room, "ended ahead of its beginning", room.quarrel(0), 2);
        room = room(3, 0);
        room.ahead(0, 1, 50000, 0);
        room.ahead(1, 2, 50000, 0);
        Check.refused(room, "just the whole time", room.quarrel(0), 6);
        room.ahead(1, 2, 50001, 0);
        Check.taken(room, "more than the whole time", room.quarrel(0), 2);
        room = room(2, 1);
        room.shows(0, 0, 0);
        room.shows(1, 0, 0);
        room.stood(0, false, 5, 5, 0);
        room.stood(0, true, 5, 5, 0);
        Check.refused(room, "no length, but these too", room.quarrel(0), 6);
        room.ahead(0, 1, 1, 0);
        Check.taken(room, "two at one time", room.quarrel(0), 5);
    }

    private static void longQuarrel() {
        Check.part("14 long quarrel");
        PlateRoom room = room(20, 16);
        for (int k = 0; k < 19; k++) {
            room.ahead(k, k + 1, k == 0 ? 1 : 0, 0);
        }
        Check.refused(room, "a chain", room.quarrel(0), 6);
        room.ahead(19, 0, 0, 0);
        Check.taken(room, "a ring of 20", room.quarrel(0), 20);
        room.ahead(15, 0, 0, 1);
        Check.taken(room, "a ring of 16", room.quarrel(1), 16);
        // Through motifs: each motif holds two plates apart, which costs two limits and a step that is none.
        room = room(17, 16);
        for (int k = 0; k < 16; k++) {
            room.shows(k, k, 0);
            room.shows(k + 1, k, 0);
        }
        room.stood(0, true, 0, 10, 0);
        room.stood(15, false, 11, 20, 0);
        Check.refused(room, "motifs that overlap", room.quarrel(0), 6);
        for (int k = 0; k < 16; k++) {
            room.stood(k, false, 3, 3, 1);
            room.stood(k, true, 3, 3, 1);
        }
        Check.taken(room, "one motif", room.quarrel(1), 2);
    }

    private static void shortestOfQuarrels() {
        Check.part("14 the shortest of several");
        PlateRoom room = room(8, 0);
        room.taken(0, 100, 100, 0);
        room.taken(3, 90, 90, 0);
        room.ahead(0, 1, 1, 0);
        room.ahead(1, 2, 1, 0);
        room.ahead(2, 3, 1, 0);
        Check.taken(room, "five by the bounds", room.quarrel(0), 5);
        room.ahead(4, 5, 1, 1);
        room.ahead(5, 6, 1, 1);
        room.ahead(6, 7, 1, 1);
        room.ahead(7, 4, 0, 1);
        Check.taken(room, "four in a ring", room.quarrel(1), 4);
        room.ahead(6, 4, -1, 2);
        Check.taken(room, "three in a ring", room.quarrel(2), 3);
        Check.taken(room, "as known ahead", room.quarrel(0), 5);
    }

    private static void frees() {
        Check.part("15 frees");
        PlateRoom room = room(2, 0);
        Check.refused(room, "frees() of none", room.frees(0, 0), 1);
        room.taken(0, 10, 20, 0);
        room.taken(0, 30, 40, 5);
        room.taken(1, 0, 9, 0);
        room.taken(0, 50, 60, 8);
        for (int wrong : new int[] {-1, 4, Integer.MIN_VALUE, Integer.MAX_VALUE}) {
            Check.refused(room, "frees() of no fact", room.frees(wrong, -1), 1);
        }
        for (int wrong : WRONG_DAYS) {
            Check.refused(room, "frees() on no day", room.frees(0, wrong), 2);
        }
        Check.refused(room, "all agree", room.frees(0, 4), 6);
        Check.refused(room, "all agree, not known", room.frees(1, 4), 6);
        Check.taken(room, "frees(0)", room.frees(0, 5), 1);
        Check.taken(room, "frees(1)", room.frees(1, 5), 1);
        Check.taken(room, "frees(2)", room.frees(2, 5), 0);
        Check.refused(room, "not told yet", room.frees(3, 5), 8);
        Check.taken(room, "two quarrels", room.frees(0, 8), 0);
        room.cross(0, 9);
        Check.refused(room, "crossed out", room.frees(0, 9), 8);
        Check.taken(room, "the other quarrel", room.frees(3, 9), 1);
    }

    private static void order() {
        Check.part("16 order");
        PlateRoom room = room(3, 0);
        for (int wrong : new int[] {-1, 3, Integer.MIN_VALUE, Integer.MAX_VALUE}) {
            Check.refused(room, "order() of no plate", room.order(wrong, 0, -1), 1);
            Check.refused(room, "order() of no plate", room.order(0, wrong, 0), 1);
        }
        Check.refused(room, "order() of like ones", room.order(1, 1, -1), 1);
        for (int wrong : WRONG_DAYS) {
            Check.refused(room, "order() on no day", room.order(0, 1, wrong), 2);
        }
        Check.taken(room, "nothing is known", room.order(0, 1, 0), 1);
        room.ahead(0, 1, 0, 1);
        Check.taken(room, "ahead, or at one time", room.order(0, 1, 1), 1);
        Check.taken(room, "behind, or at one time", room.order(1, 0, 1), 0);
        room.ahead(0, 1, 1, 2);
        Check.taken(room, "ahead", room.order(0, 1, 2), 2);
        Check.taken(room, "behind", room.order(1, 0, 2), 0);
        room.taken(2, 100000, 100000, 2);
        Check.taken(room, "none is behind the last time", room.order(2, 0, 2), 0);
        Check.taken(room, "ahead of the last time", room.order(0, 2, 2), 2);
        Check.taken(room, "perhaps at the last time", room.order(1, 2, 2), 1);
        room.taken(0, 100000, 100000, 3);
        Check.refused(room, "order() of what quarrels", room.order(1, 2, 3), 5);
        room.cross(1, 4);
        Check.taken(room, "both at the last time", room.order(0, 2, 4), 0);
        room.cross(0, 5);
        room.taken(1, 0, 99999, 5);
        Check.taken(room, "by their spans alone", room.order(1, 2, 5), 2);
        room.taken(1, 0, 50, 6);
        room.cross(2, 6);
        room.taken(2, 49, 49, 6);
        Check.taken(room, "at the last moment", room.order(2, 1, 6), 1);
        Check.taken(room, "or ahead", room.order(1, 2, 6), 1);
        room.taken(1, 0, 49, 7);
        Check.taken(room, "not ahead by then", room.order(2, 1, 7), 0);
    }

    private static void knownOnADay() {
        Check.part("12 to 16 as known on a day");
        PlateRoom room = room(2, 1);
        room.taken(0, 10, 10, 100);
        room.taken(0, 20, 20, 50);
        room.cross(0, 200);
        Check.taken(room, "day 49", room.span(0, false, 49), 0);
        Check.taken(room, "day 50", room.span(0, false, 50), 20);
        Check.taken(room, "day 99", room.span(0, false, 99), 20);
        Check.refused(room, "day 100", room.span(0, false, 100), 5);
        Check.taken(room, "day 199", room.quarrel(199), 2);
        Check.refused(room, "day 200", room.quarrel(200), 6);
        Check.taken(room, "day 9999", room.span(0, true, 9999), 20);
    }
}
