import java.util.function.Consumer;

/** The boundary cases of promises 25 to 27: laws, deaths, and what is free by them on a day. */
public final class RightsBoundsTest {
    public static void main(String[] args) {
        lawFrom0To100000();
        lawDays();
        atMost10Laws();
        aLawTooMany();
        deathOfWhat();
        deathFrom0To100000();
        deathToldOnWhatDay();
        atMost60Deaths();
        aDeathTooMany();
        freeOfWhat();
        freeOnDay0To200000();
        freeAsKnownOnWhatDay();
        noLawInForce();
        lawOnItsDay();
        latestLaw();
        lawsOfOneDay();
        lawOfTheLastDay();
        noKnownDeath();
        deathKnownOnTheDay();
        latestDeath();
        deathsOfOneDay();
        deathsOfOtherPlates();
        notAboveTheDay();
        lawOfNoDays();
        greatestNumbers();
        theLawThen();
        Check.finish();
    }

    private static PlateRoom ofOne() {
        return Rooms.of(1, 0);
    }

    private static void lawFrom0To100000() {
        Check.part("25 a LAW from a DAY on, 0 to 100,000");
        Bounds.number("law() from", 0, 100000, Rooms::furnish, (room, from) -> room.law(from, 5));
        Bounds.number("law() from", 0, 100000, Rooms.with(0, 0), (room, from) -> room.law(from, 5));
    }

    private static void lawDays() {
        Check.part("25 so many DAYS, 0 to 50,000");
        Bounds.number("law() of days", 0, 50000, Rooms::furnish, (room, days) -> room.law(5, days));
        Twins.refused("law(-1, -1)", 2, Rooms::furnish, room -> room.law(-1, -1));
        Twins.refused("law(100001, 50001)", 2, Rooms::furnish, room -> room.law(100001, 50001));
    }

    /** Laws by which a plate is free and is not by turns, so that one that is lost or changed is seen. */
    private static Consumer<PlateRoom> withLaws(int laws) {
        return room -> {
            room.plate();
            room.death(0, 0, 0);
            for (int k = 0; k < laws; k++) {
                room.law(1000 * k, k % 2 * 50000);
            }
        };
    }

    private static void atMost10Laws() {
        Check.part("25 at most 10 LAWS");
        PlateRoom room = new PlateRoom();
        withLaws(8).accept(room);
        Check.taken(room, "law() 8", room.law(8000, 8001));
        Check.taken(room, "law() 9", room.law(9000, 9001));
        Check.taken(room, "the ninth counts", room.free(0, 8000, 0), 0);
        Check.taken(room, "the ninth counts", room.free(0, 8001, 0), 1);
        Check.taken(room, "the tenth counts", room.free(0, 9000, 0), 0);
        Check.taken(room, "the tenth counts", room.free(0, 9001, 0), 1);
        Check.refused(room, "law() 10", room.law(0, 0), 3);
        Check.refused(room, "law() 10 again", room.law(100000, 50000), 3);
        Check.taken(room, "the first still counts", room.free(0, 0, 0), 1);
        Check.taken(room, "the tenth still counts", room.free(0, 9000, 0), 0);
    }

    private static void aLawTooMany() {
        Check.part("25 one LAW too many");
        Twins.refused("law() 10", 3, withLaws(10), room -> room.law(500, 0));
        Twins.refused("law() 10 of a later day", 3, withLaws(10), room -> room.law(100000, 50000));
        Twins.refused("law() 10 of no day", 2, withLaws(10), room -> room.law(-1, 0));
        Twins.refused("law() 10 of no days", 2, withLaws(10), room -> room.law(0, 50001));
    }

    private static void deathOfWhat() {
        Check.part("26 death");
        Bounds.which("death() of plate", 4, Rooms::furnish, (room, k) -> room.death(k, 0, 0));
        Bounds.which("death() of plate", 20, Rooms.with(20, 0), (room, k) -> room.death(k, 0, 0));
    }

    private static void deathFrom0To100000() {
        Check.part("26 a DEATH from 0 to 100,000");
        Bounds.number("death() at", 0, 100000, Rooms::furnish, (room, day) -> room.death(0, day, 0));
        Twins.refused("death(0, -1, 9999)", 2, Rooms::furnish, room -> room.death(0, -1, 9999));
    }

    private static void deathToldOnWhatDay() {
        Check.part("26 TOLD on a DAY, 0 to 9,999");
        Bounds.day("death() told", Rooms::furnish, (room, told) -> room.death(0, 0, told));
        Twins.refused("death(0, -1, -1)", 2, Rooms::furnish, room -> room.death(0, -1, -1));
        Twins.refused("death(0, 100001, 10000)", 2, Rooms::furnish, room -> room.death(0, 100001, 10000));
    }

    private static Consumer<PlateRoom> withDeaths(int deaths) {
        return room -> {
            Rooms.fill(room, 2, 0);
            room.law(0, 10);
            for (int k = 0; k < deaths; k++) {
                room.death(k % 2, 1990, k / 2);
            }
        };
    }

    private static void atMost60Deaths() {
        Check.part("26 60 in all");
        PlateRoom room = new PlateRoom();
        withDeaths(58).accept(room);
        Check.taken(room, "death() 58", room.death(0, 3000, 29));
        Check.taken(room, "death() 59", room.death(1, 4000, 29));
        Check.taken(room, "the last but one counts", room.free(0, 3009, 29), 0);
        Check.taken(room, "the last but one counts", room.free(0, 3010, 29), 1);
        Check.taken(room, "the last one counts", room.free(1, 4009, 29), 0);
        Check.taken(room, "the last one counts", room.free(1, 4010, 29), 1);
        Check.taken(room, "those ahead of it count", room.free(1, 2000, 28), 1);
        Check.refused(room, "death() 60", room.death(0, 0, 0), 3);
        Check.refused(room, "death() 60 of the other", room.death(1, 0, 0), 3);
    }

    private static void aDeathTooMany() {
        Check.part("26 one DEATH too many");
        Twins.refused("death() 60", 3, withDeaths(60), room -> room.death(0, 0, 0));
        Twins.refused("death() 60 told last", 3, withDeaths(60), room -> room.death(1, 100000, 9999));
        Twins.refused("death() 60 of no plate", 1, withDeaths(60), room -> room.death(2, 0, 0));
        Twins.refused("death() 60 at no day", 2, withDeaths(60), room -> room.death(0, 100001, 0));
        Twins.refused("death() 60 told on no day", 2, withDeaths(60), room -> room.death(0, 0, 10000));
        // All sixty may be of one plate, too, and then there is none for another one.
        Twins.refused("death() 60 of a plate with none", 3, room -> {
            Rooms.fill(room, 2, 0);
            for (int k = 0; k < 60; k++) {
                room.death(0, 7, k);
            }
        }, room -> room.death(1, 0, 0));
    }

    private static void freeOfWhat() {
        Check.part("27 free");
        Bounds.which("free() of plate", 4, Rooms::furnish, (room, k) -> room.free(k, 3000, 9999));
        Bounds.which("free() of plate", 20, Rooms.with(20, 0), (room, k) -> room.free(k, 3000, 9999));
    }

    private static void freeOnDay0To200000() {
        Check.part("27 on a DAY, 0 to 200,000");
        Bounds.number("free() on", 0, 200000, Rooms::furnish, (room, day) -> room.free(0, day, 0));
        PlateRoom room = ofOne();
        room.law(0, 0);
        room.death(0, 1, 0);
        Check.taken(room, "on 0", room.free(0, 0, 0), 0);
        Check.taken(room, "on 1", room.free(0, 1, 0), 1);
        Check.taken(room, "on 100,001", room.free(0, 100001, 0), 1);
        Check.taken(room, "on 199,999", room.free(0, 199999, 0), 1);
        Check.taken(room, "on 200,000", room.free(0, 200000, 0), 1);
        Check.refused(room, "on 200,001", room.free(0, 200001, 0), 2);
    }

    private static void freeAsKnownOnWhatDay() {
        Check.part("27 as known on a DAY, 0 to 9,999");
        Bounds.day("free() as known", Rooms::furnish, (room, known) -> room.free(0, 3000, known));
        Twins.refused("free(0, -1, -1)", 2, Rooms::furnish, room -> room.free(0, -1, -1));
        Twins.refused("free(0, 200001, 10000)", 2, Rooms::furnish, room -> room.free(0, 200001, 10000));
    }

    private static void noLawInForce() {
        Check.part("27 no LAW in force: nothing is free");
        PlateRoom room = ofOne();
        room.death(0, 0, 0);
        Check.taken(room, "no law at all", room.free(0, 200000, 9999), 0);
        room.law(500, 0);
        Check.taken(room, "a day ahead of all laws", room.free(0, 499, 9999), 0);
        Check.taken(room, "on day 0", room.free(0, 0, 9999), 0);
        room.law(300, 0);
        Check.taken(room, "a day ahead of all laws", room.free(0, 299, 9999), 0);
        Check.taken(room, "on the first one's day", room.free(0, 300, 9999), 1);
    }

    private static void lawOnItsDay() {
        Check.part("27 in force from its DAY on");
        for (int day : new int[] {1, 5000, 99999, 100000}) {
            PlateRoom room = ofOne();
            room.death(0, 0, 0);
            room.law(day, 0);
            Check.taken(room, "a day ahead", room.free(0, day - 1, 0), 0);
            Check.taken(room, "on it", room.free(0, day, 0), 1);
            Check.taken(room, "a day behind", room.free(0, day + 1, 0), 1);
        }
        PlateRoom room = ofOne();
        room.death(0, 0, 0);
        room.law(0, 0);
        Check.taken(room, "from day 0 on", room.free(0, 0, 0), 1);
    }

    private static void latestLaw() {
        Check.part("27 in force is the LAW with the latest DAY that is not behind it");
        PlateRoom room = ofOne();
        room.death(0, 900, 0);
        room.law(2000, 2000);
        room.law(1000, 100);
        Check.taken(room, "by the earlier day, told later", room.free(0, 1000, 0), 1);
        Check.taken(room, "up to the day ahead", room.free(0, 1999, 0), 1);
        Check.taken(room, "by the later day, told ahead", room.free(0, 2000, 0), 0);
        Check.taken(room, "still", room.free(0, 2899, 0), 0);
        Check.taken(room, "at last", room.free(0, 2900, 0), 1);
        room.law(2900, 2001);
        Check.taken(room, "by a third one", room.free(0, 2900, 0), 0);
        Check.taken(room, "by a third one", room.free(0, 2901, 0), 1);
    }

    private static void lawsOfOneDay() {
        Check.part("27 of several LAWS of one DAY the one told last");
        PlateRoom room = ofOne();
        room.death(0, 900, 0);
        room.law(1000, 100);
        room.law(1000, 300);
        Check.taken(room, "the second", room.free(0, 1199, 0), 0);
        Check.taken(room, "the second", room.free(0, 1200, 0), 1);
        room.law(1000, 200);
        Check.taken(room, "the third", room.free(0, 1099, 0), 0);
        Check.taken(room, "the third", room.free(0, 1100, 0), 1);
        room.law(999, 0);
        Check.taken(room, "one of the day ahead is not in force", room.free(0, 1099, 0), 0);
        Check.taken(room, "but on that day", room.free(0, 999, 0), 1);
    }

    private static void lawOfTheLastDay() {
        Check.part("27 LAWS of DAY 0 and of DAY 100,000");
        PlateRoom room = ofOne();
        room.death(0, 60000, 0);
        room.law(0, 39999);
        room.law(100000, 50000);
        Check.taken(room, "by the first", room.free(0, 99998, 0), 0);
        Check.taken(room, "by the first", room.free(0, 99999, 0), 1);
        Check.taken(room, "by the last", room.free(0, 100000, 0), 0);
        Check.taken(room, "by the last", room.free(0, 109999, 0), 0);
        Check.taken(room, "by the last", room.free(0, 110000, 0), 1);
    }

    private static void noKnownDeath() {
        Check.part("27 no known DEATH");
        PlateRoom room = Rooms.of(2, 0);
        room.law(0, 0);
        Check.taken(room, "none at all", room.free(0, 200000, 9999), 0);
        room.death(0, 0, 9999);
        Check.taken(room, "told later", room.free(0, 200000, 9998), 0);
        Check.taken(room, "told on it", room.free(0, 0, 9999), 1);
        Check.taken(room, "none of the other one", room.free(1, 200000, 9999), 0);
    }

    private static void deathKnownOnTheDay() {
        Check.part("27 a DEATH told on the DAY or ahead");
        for (int told : new int[] {1, 5000, 9999}) {
            PlateRoom room = ofOne();
            room.law(0, 0);
            room.death(0, 0, told);
            Check.taken(room, "a day ahead", room.free(0, 200000, told - 1), 0);
            Check.taken(room, "on it", room.free(0, 200000, told), 1);
            Check.taken(room, "on the last day", room.free(0, 200000, 9999), 1);
        }
        PlateRoom room = ofOne();
        room.law(0, 0);
        room.death(0, 0, 0);
        Check.taken(room, "told on day 0, known on it", room.free(0, 0, 0), 1);
    }

    private static void latestDeath() {
        Check.part("27 as known is the DEATH told latest");
        PlateRoom room = ofOne();
        room.law(0, 0);
        room.death(0, 100, 20);
        room.death(0, 200, 10);
        Check.taken(room, "known on 9", room.free(0, 200000, 9), 0);
        Check.taken(room, "known on 10", room.free(0, 199, 10), 0);
        Check.taken(room, "known on 10", room.free(0, 200, 10), 1);
        Check.taken(room, "known on 19", room.free(0, 199, 19), 0);
        Check.taken(room, "known on 20", room.free(0, 100, 20), 1);
        Check.taken(room, "known on 20", room.free(0, 99, 20), 0);
        room.death(0, 300, 21);
        Check.taken(room, "known on 20 still", room.free(0, 100, 20), 1);
        Check.taken(room, "known on 21", room.free(0, 299, 21), 0);
        Check.taken(room, "known on 21", room.free(0, 300, 21), 1);
    }

    private static void deathsOfOneDay() {
        Check.part("27 of several DEATHS told on one DAY the later call");
        PlateRoom room = ofOne();
        room.law(0, 0);
        room.death(0, 100, 20);
        room.death(0, 300, 20);
        Check.taken(room, "the second", room.free(0, 299, 20), 0);
        Check.taken(room, "the second", room.free(0, 300, 20), 1);
        room.death(0, 200, 20);
        Check.taken(room, "the third", room.free(0, 199, 20), 0);
        Check.taken(room, "the third", room.free(0, 200, 20), 1);
        room.death(0, 0, 19);
        Check.taken(room, "a later call of the day ahead", room.free(0, 199, 20), 0);
        Check.taken(room, "as known on the day ahead", room.free(0, 0, 19), 1);
    }

    private static void deathsOfOtherPlates() {
        Check.part("27 DEATHS of the first PLATE and of the last");
        PlateRoom room = Rooms.of(20, 0);
        room.law(0, 0);
        room.death(0, 10, 0);
        room.death(19, 20, 0);
        Check.taken(room, "plate 0", room.free(0, 10, 0), 1);
        Check.taken(room, "plate 0", room.free(0, 9, 0), 0);
        Check.taken(room, "plate 19", room.free(19, 20, 0), 1);
        Check.taken(room, "plate 19", room.free(19, 19, 0), 0);
        Check.taken(room, "plate 18", room.free(18, 200000, 9999), 0);
    }

    private static void notAboveTheDay() {
        Check.part("27 if DEATH and DAYS are not above the DAY");
        PlateRoom room = ofOne();
        room.law(0, 70);
        room.death(0, 900, 0);
        Check.taken(room, "a day ahead", room.free(0, 969, 0), 0);
        Check.taken(room, "on it", room.free(0, 970, 0), 1);
        Check.taken(room, "a day behind", room.free(0, 971, 0), 1);
    }

    private static void lawOfNoDays() {
        Check.part("27 a LAW of 0 DAYS, and of 1");
        PlateRoom room = ofOne();
        room.law(0, 0);
        room.death(0, 900, 0);
        Check.taken(room, "the day ahead of the death", room.free(0, 899, 0), 0);
        Check.taken(room, "the day of the death", room.free(0, 900, 0), 1);
        room.law(0, 1);
        Check.taken(room, "the day of the death", room.free(0, 900, 0), 0);
        Check.taken(room, "the day behind", room.free(0, 901, 0), 1);
    }

    private static void greatestNumbers() {
        Check.part("27 the latest DEATH with the most DAYS");
        PlateRoom room = ofOne();
        room.law(100000, 50000);
        room.death(0, 100000, 9999);
        Check.taken(room, "on 149,999", room.free(0, 149999, 9999), 0);
        Check.taken(room, "on 150,000", room.free(0, 150000, 9999), 1);
        Check.taken(room, "on 200,000", room.free(0, 200000, 9999), 1);
        Check.taken(room, "as known on 9,998", room.free(0, 200000, 9998), 0);
    }

    private static void theLawThen() {
        Check.part("27 by the LAW then: what was free can be so no more");
        PlateRoom room = ofOne();
        room.death(0, 0, 0);
        room.law(0, 10);
        room.law(20, 50);
        Check.taken(room, "free on 19", room.free(0, 19, 0), 1);
        Check.taken(room, "not on 20", room.free(0, 20, 0), 0);
        Check.taken(room, "free on 50", room.free(0, 50, 0), 1);
    }
}
