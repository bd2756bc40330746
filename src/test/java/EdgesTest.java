/** Promises 17 to 21: edges, rows and rings. */
public final class EdgesTest {
    public static void main(String[] args) {
        edges();
        row();
        firstRow();
        refusedRows();
        ring();
        rows();
        out();
        allPlates();
        Check.finish();
    }

    /** A room of plates whose edges are given one after the other: left, right, left, right .. */
    private static PlateRoom room(int... edges) {
        PlateRoom room = new PlateRoom();
        for (int k = 0; k < edges.length / 2; k++) {
            room.plate();
            room.edges(k, edges[2 * k], edges[2 * k + 1]);
        }
        return room;
    }

    private static void dueRow(PlateRoom room, int set, int... plates) {
        Check.taken(room, "row(" + set + ")", room.row(set), plates.length);
        for (int k = 0; k < plates.length; k++) {
            Check.due("row(" + set + ") out(" + k + ")", room.out(k), plates[k]);
        }
        Check.due("row(" + set + ") out() behind", room.out(plates.length), -1);
    }

    private static void edges() {
        Check.part("17 edges");
        PlateRoom room = room(1, 2, 2, 3);
        for (int wrong : new int[] {-1, 2, 20, Integer.MIN_VALUE, Integer.MAX_VALUE}) {
            Check.refused(room, "edges() of no plate", room.edges(wrong, -1, 100), 1);
        }
        for (int wrong : new int[] {-1, 100, Integer.MIN_VALUE, Integer.MAX_VALUE}) {
            Check.refused(room, "no left edge", room.edges(0, wrong, 5), 2);
            Check.refused(room, "no right edge", room.edges(0, 5, wrong), 2);
        }
        dueRow(room, 3, 0, 1);
        Check.taken(room, "edges()", room.edges(0, 3, 0));
        dueRow(room, 3, 1, 0);
        Check.taken(room, "edges()", room.edges(0, 99, 99));
        Check.taken(room, "edges()", room.edges(1, 99, 99));
        dueRow(room, 3, 0, 1);
        Check.taken(room, "edges()", room.edges(0, 0, 0));
        Check.taken(room, "edges()", room.edges(1, 0, 0));
        Check.refused(room, "0 fits to none", room.row(3), 7);
    }

    private static void row() {
        Check.part("18 row");
        dueRow(room(5, 6), 1, 0);
        dueRow(room(0, 0), 1, 0);
        dueRow(room(2, 3, 1, 2), 3, 1, 0);
        dueRow(room(3, 0, 2, 3, 1, 2, 0, 1), 15, 3, 2, 1, 0);
        dueRow(room(1, 2, 2, 1), 3, 0, 1);
        dueRow(room(1, 2, 7, 7, 2, 1), 5, 0, 2);
    }

    private static void firstRow() {
        Check.part("18 the first row");
        // The lesser way at a fork is a trap: it leads away from what only the other way has.
        dueRow(room(1, 2, 2, 3, 2, 2), 7, 0, 2, 1);
        dueRow(room(1, 9, 1, 2, 2, 1), 7, 1, 2, 0);
        dueRow(room(1, 1, 1, 2, 2, 1, 1, 1), 15, 0, 1, 2, 3);
        // A ring can begin at each of its plates: at the least one.
        dueRow(room(3, 1, 1, 2, 2, 3), 7, 0, 1, 2);
        // Two rings that meet at 1.
        dueRow(room(2, 1, 1, 3, 1, 2, 3, 1), 15, 0, 1, 3, 2);
        // The row has to begin at 4, though 4 is not at plate 0.
        dueRow(room(1, 2, 2, 1, 4, 1), 7, 2, 0, 1);
        dueRow(room(5, 5, 5, 5, 5, 5), 7, 0, 1, 2);
        // Two plates begin at 1, only one more than end there: each is tried by its number.
        dueRow(room(1, 3, 2, 1, 1, 2, 3, 4), 15, 2, 1, 0, 3);
    }

    private static void refusedRows() {
        Check.part("18 refused");
        PlateRoom room = room(1, 2, 2, 3, 5, 5);
        Check.refused(room, "none", room.row(0), 2);
        for (int wrong : new int[] {8, 9, 1 << 20, Integer.MIN_VALUE, Integer.MAX_VALUE, -1}) {
            Check.refused(room, "other bits in row()", room.row(wrong), 2);
            Check.refused(room, "other bits in ring()", room.ring(wrong), 2);
            Check.refused(room, "other bits in rows()", room.rows(wrong), 2);
        }
        Check.due("out() of no row yet", room.out(0), -1);
        dueRow(room, 3, 0, 1);
        Check.refused(room, "no such row", room.row(7), 7);
        Check.refused(room, "no such set", room.row(8), 2);
        Check.due("out(0) stays", room.out(0), 0);
        Check.due("out(1) stays", room.out(1), 1);
        Check.due("out(2) stays", room.out(2), -1);
    }

    private static void ring() {
        Check.part("19 ring");
        PlateRoom room = room(1, 2, 2, 3, 3, 1, 4, 4, 0, 0, 1, 1);
        Check.taken(room, "ring(7)", room.ring(7), 1);
        Check.taken(room, "ring(3)", room.ring(3), 0);
        Check.taken(room, "ring(8)", room.ring(8), 1);
        Check.taken(room, "ring(16)", room.ring(16), 0);
        Check.taken(room, "ring(39)", room.ring(39), 1);
        Check.taken(room, "ring(33)", room.ring(33), 0);
        Check.refused(room, "ring(15)", room.ring(15), 7);
        Check.refused(room, "ring(9)", room.ring(9), 7);
        Check.refused(room, "ring(0)", room.ring(0), 2);
        Check.refused(room, "ring(64)", room.ring(64), 2);
        room.row(3);
        room.ring(4);
        Check.due("out() behind ring()", room.out(1), 1);
    }

    private static void rows() {
        Check.part("20 rows");
        PlateRoom room = room(1, 2, 1, 3, 2, 1, 4, 4, 4, 4, 0, 0, 0, 5, 5, 0, 6, 5);
        Check.taken(room, "none", room.rows(0), 0);
        Check.taken(room, "one", room.rows(1), 1);
        Check.taken(room, "a fork", room.rows(3), 2);
        Check.taken(room, "a fork with a way back", room.rows(7), 1);
        Check.taken(room, "a ring", room.rows(24), 1);
        Check.taken(room, "a ring and a row", room.rows(31), 2);
        Check.taken(room, "one that fits to none", room.rows(63), 3);
        Check.taken(room, "ends of 0", room.rows(192), 1);
        Check.taken(room, "two that end at 5", room.rows(448), 2);
        Check.taken(room, "all", room.rows(511), 5);
        Check.refused(room, "other bits", room.rows(512), 2);
        Check.refused(room, "other bits", room.rows(-1), 2);
        room.row(7);
        room.rows(1);
        Check.due("out() behind rows()", room.out(2), 1);
    }

    private static void out() {
        Check.part("21 out");
        PlateRoom room = room(1, 2, 2, 3, 3, 4);
        for (int k : new int[] {-1, 0, 1, 20, Integer.MIN_VALUE, Integer.MAX_VALUE}) {
            Check.due("out() of none", room.out(k), -1);
        }
        dueRow(room, 7, 0, 1, 2);
        dueRow(room, 2, 1);
        for (int k : new int[] {-1, 1, 2, 3, 19, 20, 21, Integer.MIN_VALUE, Integer.MAX_VALUE}) {
            Check.due("out() beside it", room.out(k), -1);
        }
    }

    private static void allPlates() {
        Check.part("18 to 20 all plates");
        PlateRoom room = new PlateRoom();
        int all = (1 << 20) - 1;
        for (int k = 0; k < 20; k++) {
            room.plate();
            room.edges(k, 20 - k, 19 - k);
        }
        Check.taken(room, "row of all", room.row(all), 20);
        for (int k = 0; k < 20; k++) {
            Check.due("out(" + k + ")", room.out(k), k);
        }
        Check.due("out(20)", room.out(20), -1);
        Check.taken(room, "ring of all", room.ring(all), 0);
        Check.taken(room, "each second", room.rows(all / 3), 10);
        room.edges(19, 1, 20);
        Check.taken(room, "ring of all", room.ring(all), 1);
        Check.taken(room, "rows of all", room.rows(all), 1);
    }
}
