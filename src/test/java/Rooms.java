import java.util.function.Consumer;

/** Rooms that the tests of bounds begin with. */
final class Rooms {
    private Rooms() {
    }

    static PlateRoom of(int plates, int motifs) {
        PlateRoom room = new PlateRoom();
        fill(room, plates, motifs);
        return room;
    }

    static Consumer<PlateRoom> with(int plates, int motifs) {
        return room -> fill(room, plates, motifs);
    }

    static void fill(PlateRoom room, int plates, int motifs) {
        for (int k = 0; k < plates; k++) {
            room.plate();
        }
        for (int k = 0; k < motifs; k++) {
            room.motif();
        }
    }

    /**
     * Four plates, two motifs, nine facts, one of them crossed out, that agree up to day 99 and
     * quarrel from day 100 on; edges, wishes, laws, deaths, and a row in OUT: a trace that a
     * refused call leaves shows up somewhere here.
     */
    static void furnish(PlateRoom room) {
        fill(room, 4, 2);
        tellFacts(room);
        room.edges(0, 1, 2);
        room.edges(1, 2, 3);
        room.edges(2, 3, 1);
        room.edges(3, 5, 0);
        room.want(0, 5, 3, 4);
        room.want(1, 4, 2, 6);
        room.want(2, 7, 5, 5);
        room.want(3, 0, 50, 49);
        room.law(1000, 70);
        room.law(2000, 50);
        room.death(0, 900, 10);
        room.death(0, 1960, 20);
        room.death(1, 1940, 30);
        room.row(7);
    }

    private static void tellFacts(PlateRoom room) {
        room.shows(0, 0, 10);
        room.ahead(0, 1, 5, 20);
        room.same(2, 3, 30);
        room.taken(0, 100, 200, 40);
        room.stood(0, false, 50, 150, 50);
        room.stood(0, true, 160, 300, 60);
        room.taken(1, 120, 400, 70);
        room.cross(6, 80);
        room.taken(2, 10, 20, 90);
        room.taken(3, 30, 40, 100);
    }

    /** Two plates, a motif, and so many facts that always hold. */
    static Consumer<PlateRoom> withFacts(int facts) {
        return room -> {
            fill(room, 2, 1);
            for (int k = 0; k < facts; k++) {
                oneFact(room, k % 6, 0);
            }
        };
    }

    /** A fact of each kind that can be told of plates 0 and 1 and motif 0. */
    static int oneFact(PlateRoom room, int kind, int day) {
        switch (kind) {
            case 0:
                return room.shows(0, 0, day);
            case 1:
                return room.ahead(0, 1, 0, day);
            case 2:
                return room.taken(0, 0, 100000, day);
            case 3:
                return room.stood(0, false, 0, 100000, day);
            case 4:
                return room.stood(0, true, 0, 100000, day);
            default:
                return room.same(0, 1, day);
        }
    }
}
