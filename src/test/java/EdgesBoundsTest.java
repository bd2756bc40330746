import java.util.function.Consumer;

/** The boundary cases of promises 17 to 21: edges 0 and 99, sets with other bits and empty ones, no such row, OUT. */
public final class EdgesBoundsTest {
    private static final int ALL = (1 << 20) - 1;

    public static void main(String[] args) {
        edgesOfWhat();
        edgesFrom0To99();
        edge0FitsToNone();
        edge99FitsAsAnyOther();
        edgesAgain();
        rowOfOtherBits();
        rowOfNone();
        rowOfOne();
        rowOfTwo();
        rowOfAll();
        noSuchRow();
        firstRow();
        refusedRowLeavesOut();
        ringOfOtherBits();
        ringOfNone();
        ringOfOne();
        ringOfTwo();
        ringOfAll();
        ringOfNoSuchRow();
        rowsOfOtherBits();
        rowsOfNone();
        rowsOfOne();
        rowsOfAll();
        rowsLeaveOut();
        emptyOut();
        outBeyond();
        outOfTheLatestRow();
        outOfAll();
        Check.finish();
    }

    /** Plates whose edges are given one after the other: left, right, left, right .. */
    private static PlateRoom room(int... edges) {
        PlateRoom room = new PlateRoom();
        put(room, edges);
        return room;
    }

    private static void put(PlateRoom room, int... edges) {
        for (int k = 0; k < edges.length / 2; k++) {
            room.plate();
            room.edges(k, edges[2 * k], edges[2 * k + 1]);
        }
    }

    /** A row in OUT (0, 1, 2), a ring (3), and one that fits to none (4). */
    private static void withRow(PlateRoom room) {
        put(room, 1, 2, 2, 3, 3, 4, 7, 7, 0, 0);
        room.row(7);
    }

    /** Twenty plates that stand in a row by their numbers. */
    private static void inARow(PlateRoom room) {
        Rooms.fill(room, 20, 0);
        for (int k = 0; k < 20; k++) {
            room.edges(k, k + 1, k + 2);
        }
    }

    private static PlateRoom made(Consumer<PlateRoom> making) {
        PlateRoom room = new PlateRoom();
        making.accept(room);
        return room;
    }

    private static void dueRow(String name, PlateRoom room, int set, int... plates) {
        Check.taken(room, name, room.row(set), plates.length);
        for (int k = 0; k < plates.length; k++) {
            Check.due(name + ", out(" + k + ")", room.out(k), plates[k]);
        }
        Check.due(name + ", out() behind it", room.out(plates.length), -1);
    }

    private static void edgesOfWhat() {
        Check.part("17 edges");
        Bounds.which("edges() of plate", 5, EdgesBoundsTest::withRow, (room, k) -> room.edges(k, 2, 2));
        Bounds.which("edges() of plate", 20, EdgesBoundsTest::inARow, (room, k) -> room.edges(k, 5, 5));
    }

    private static void edgesFrom0To99() {
        Check.part("17 EDGES from 0 to 99");
        Bounds.number("edges() left", 0, 99, EdgesBoundsTest::withRow, (room, edge) -> room.edges(1, edge, 7));
        Bounds.number("edges() right", 0, 99, EdgesBoundsTest::withRow, (room, edge) -> room.edges(1, 7, edge));
        Twins.refused("edges(-1, -1)", 2, EdgesBoundsTest::withRow, room -> room.edges(1, -1, -1));
        Twins.refused("edges(100, 100)", 2, EdgesBoundsTest::withRow, room -> room.edges(1, 100, 100));
        Twins.refused("edges(-1, 100)", 2, EdgesBoundsTest::withRow, room -> room.edges(1, -1, 100));
    }

    private static void edge0FitsToNone() {
        Check.part("17 EDGE 0 fits to none");
        PlateRoom room = room(1, 0, 0, 1, 0, 0, 0, 0);
        Check.refused(room, "right 0 and left 0", room.row(12), 7);
        Check.taken(room, "ring of 0 and 0", room.ring(4), 0);
        Check.taken(room, "rows", room.rows(12), 2);
        dueRow("by their 1", room, 3, 1, 0);
        Check.taken(room, "no ring by their 0", room.ring(3), 0);
        Check.refused(room, "with another 0 behind", room.row(7), 7);
    }

    private static void edge99FitsAsAnyOther() {
        Check.part("17 EDGES 1, 98 and 99 fit to like ones alone");
        for (int edge : new int[] {1, 98, 99}) {
            PlateRoom room = room(0, edge, edge, 0, edge, edge, edge - 1, 0);
            dueRow("edge " + edge, room, 3, 0, 1);
            dueRow("edge " + edge + " between", room, 7, 0, 2, 1);
            Check.taken(room, "edge " + edge + " is a ring", room.ring(4), 1);
            Check.refused(room, "edge " + edge + " and the one below", room.row(9), 7);
        }
    }

    private static void edgesAgain() {
        Check.part("17 EDGES once more: the latest count");
        PlateRoom room = room(1, 2, 2, 3);
        dueRow("first", room, 3, 0, 1);
        Check.taken(room, "edges()", room.edges(0, 3, 9));
        dueRow("then", room, 3, 1, 0);
        Check.taken(room, "edges()", room.edges(0, 0, 0));
        Check.refused(room, "back to 0", room.row(3), 7);
        Check.due("OUT is as it was", room.out(0), 1);
        Check.due("OUT is as it was", room.out(1), 0);
    }

    private static void rowOfOtherBits() {
        Check.part("18 other bits");
        int[] wrongs = {32, 33, 32 + 7, 1 << 19, 1 << 20, 1 << 30, Integer.MAX_VALUE, Integer.MIN_VALUE,
            Integer.MIN_VALUE + 7, -1, -32};
        for (int wrong : wrongs) {
            Twins.refused("row(" + wrong + ")", 2, EdgesBoundsTest::withRow, room -> room.row(wrong));
        }
        for (int wrong : new int[] {1 << 20, ALL + 1 + 7, 1 << 31, -1}) {
            Twins.refused("row(" + wrong + ") of 20", 2, EdgesBoundsTest::inARow, room -> room.row(wrong));
        }
        dueRow("the last bit of 5", made(EdgesBoundsTest::withRow), 16, 4);
        dueRow("the last bit of 20", made(EdgesBoundsTest::inARow), 1 << 19, 19);
    }

    private static void rowOfNone() {
        Check.part("18 none");
        Twins.refused("row(0)", 2, EdgesBoundsTest::withRow, room -> room.row(0));
        Twins.refused("row(0) of no plates", 2, Rooms.with(0, 0), room -> room.row(0));
        Twins.refused("row(1) of no plates", 2, Rooms.with(0, 0), room -> room.row(1));
    }

    private static void rowOfOne() {
        Check.part("18 a ROW of one PLATE");
        PlateRoom room = made(EdgesBoundsTest::withRow);
        for (int k = 0; k < 5; k++) {
            dueRow("row() of " + k, room, 1 << k, k);
        }
    }

    private static void rowOfTwo() {
        Check.part("18 a ROW of two PLATES");
        dueRow("as they come", room(1, 2, 2, 3), 3, 0, 1);
        dueRow("the other way", room(2, 3, 1, 2), 3, 1, 0);
        dueRow("either way", room(1, 2, 2, 1), 3, 0, 1);
        Twins.refused("like left edges", 7, room -> put(room, 1, 2, 1, 3), room -> room.row(3));
        Twins.refused("like right edges", 7, room -> put(room, 1, 2, 3, 2), room -> room.row(3));
        Twins.refused("two rings", 7, room -> put(room, 1, 1, 2, 2), room -> room.row(3));
    }

    private static void rowOfAll() {
        Check.part("18 a ROW of 20 PLATES");
        PlateRoom room = made(EdgesBoundsTest::inARow);
        Check.taken(room, "row() of all", room.row(ALL), 20);
        for (int k = 0; k < 20; k++) {
            Check.due("out(" + k + ")", room.out(k), k);
        }
        Check.due("out(20)", room.out(20), -1);
        Check.taken(room, "row() of all but the first", room.row(ALL - 1), 19);
        Check.due("out(0)", room.out(0), 1);
        Check.due("out(19)", room.out(19), -1);
        Check.taken(room, "row() of all but the last", room.row(ALL >> 1), 19);
        Check.refused(room, "row() of all but one between", room.row(ALL - 1024), 7);
    }

    private static void noSuchRow() {
        Check.part("18 there is no such ROW");
        for (int set : new int[] {5, 8 + 1, 16 + 1, 16 + 8, 7 + 8, 7 + 16, 31}) {
            Twins.refused("row(" + set + ")", 7, EdgesBoundsTest::withRow, room -> room.row(set));
        }
        // As many left as right edges of each kind, but two parts that don't hang together.
        Twins.refused("two rings apart", 7, room -> put(room, 1, 2, 2, 1, 3, 4, 4, 3), room -> room.row(15));
        // All hang together, but two have none for the place left of them.
        Twins.refused("two beginnings", 7, room -> put(room, 1, 2, 5, 2, 2, 3), room -> room.row(7));
        Twins.refused("two ends", 7, room -> put(room, 1, 2, 2, 3, 2, 4), room -> room.row(7));
    }

    private static void firstRow() {
        Check.part("18 the first of several");
        dueRow("all alike", room(5, 5, 5, 5, 5, 5), 7, 0, 1, 2);
        dueRow("a ring from its least", room(3, 1, 1, 2, 2, 3), 7, 0, 1, 2);
        dueRow("a ring without plate 0", room(9, 9, 1, 2, 2, 1), 6, 1, 2);
        dueRow("the lesser way leads nowhere", room(1, 2, 2, 3, 2, 2), 7, 0, 2, 1);
        dueRow("the lesser way leads back", room(1, 2, 2, 1, 2, 3, 1, 2), 15, 0, 1, 3, 2);
        PlateRoom all = Rooms.of(20, 0);
        for (int k = 0; k < 20; k++) {
            all.edges(k, 99, 99);
        }
        Check.taken(all, "twenty alike", all.row(ALL), 20);
        for (int k = 0; k < 20; k++) {
            Check.due("out(" + k + ")", all.out(k), k);
        }
    }

    private static void refusedRowLeavesOut() {
        Check.part("18 to 20 a refused call leaves OUT as it is");
        PlateRoom room = made(EdgesBoundsTest::withRow);
        for (int set : new int[] {0, 32, -1, 5, 31}) {
            room.row(set);
            room.ring(set);
            room.rows(32);
            Check.due("out(0)", room.out(0), 0);
            Check.due("out(1)", room.out(1), 1);
            Check.due("out(2)", room.out(2), 2);
            Check.due("out(3)", room.out(3), -1);
        }
    }

    private static void ringOfOtherBits() {
        Check.part("19 other bits");
        for (int wrong : new int[] {32, 33, 40, 1 << 20, Integer.MAX_VALUE, Integer.MIN_VALUE, Integer.MIN_VALUE + 8, -1}) {
            Twins.refused("ring(" + wrong + ")", 2, EdgesBoundsTest::withRow, room -> room.ring(wrong));
        }
        Twins.refused("ring(1 << 20) of 20", 2, EdgesBoundsTest::inARow, room -> room.ring(1 << 20));
    }

    private static void ringOfNone() {
        Check.part("19 none");
        Twins.refused("ring(0)", 2, EdgesBoundsTest::withRow, room -> room.ring(0));
        Twins.refused("ring(0) of no plates", 2, Rooms.with(0, 0), room -> room.ring(0));
    }

    private static void ringOfOne() {
        Check.part("19 a RING of one PLATE");
        for (int edge : new int[] {1, 99}) {
            PlateRoom room = room(edge, edge, edge, edge == 1 ? 2 : 98, 0, 0, 0, edge, edge, 0);
            Check.taken(room, "both edges like", room.ring(1), 1);
            Check.taken(room, "unlike edges", room.ring(2), 0);
            Check.taken(room, "both 0", room.ring(4), 0);
            Check.taken(room, "left 0", room.ring(8), 0);
            Check.taken(room, "right 0", room.ring(16), 0);
        }
    }

    private static void ringOfTwo() {
        Check.part("19 a RING of two PLATES");
        PlateRoom room = room(1, 2, 2, 1, 2, 3, 0, 1, 2, 0);
        Check.taken(room, "there and back", room.ring(3), 1);
        Check.taken(room, "there alone", room.ring(5), 0);
        Check.taken(room, "between two edges 0", room.ring(1 + 8 + 16), 0);
    }

    private static void ringOfAll() {
        Check.part("19 a RING of 20 PLATES");
        PlateRoom room = made(EdgesBoundsTest::inARow);
        Check.taken(room, "a row", room.ring(ALL), 0);
        room.edges(19, 20, 1);
        Check.taken(room, "a ring", room.ring(ALL), 1);
        room.edges(19, 20, 0);
        Check.taken(room, "a row again", room.ring(ALL), 0);
    }

    private static void ringOfNoSuchRow() {
        Check.part("19 there is no such ROW");
        for (int set : new int[] {5, 8 + 1, 16 + 8, 31}) {
            Twins.refused("ring(" + set + ")", 7, EdgesBoundsTest::withRow, room -> room.ring(set));
        }
        Twins.refused("two rings apart", 7, room -> put(room, 1, 1, 2, 2), room -> room.ring(3));
    }

    private static void rowsOfOtherBits() {
        Check.part("20 other bits");
        for (int wrong : new int[] {32, 33, 1 << 20, Integer.MAX_VALUE, Integer.MIN_VALUE, Integer.MIN_VALUE + 1, -1}) {
            Twins.refused("rows(" + wrong + ")", 2, EdgesBoundsTest::withRow, room -> room.rows(wrong));
        }
        Twins.refused("rows(1 << 20) of 20", 2, EdgesBoundsTest::inARow, room -> room.rows(1 << 20));
        Twins.refused("rows(1) of no plates", 2, Rooms.with(0, 0), room -> room.rows(1));
    }

    private static void rowsOfNone() {
        Check.part("20 of none 0");
        PlateRoom room = new PlateRoom();
        room.span(0, true, 0);
        Check.taken(room, "rows(0) of no plates", room.rows(0), 0);
        room = made(EdgesBoundsTest::withRow);
        room.row(0);
        Check.taken(room, "rows(0)", room.rows(0), 0);
    }

    private static void rowsOfOne() {
        Check.part("20 ROWS of one PLATE, and of one ROW");
        PlateRoom room = made(EdgesBoundsTest::withRow);
        for (int k = 0; k < 5; k++) {
            Check.taken(room, "rows() of " + k, room.rows(1 << k), 1);
        }
        Check.taken(room, "a row", room.rows(7), 1);
        Check.taken(room, "a row with a gap", room.rows(5), 2);
        Check.taken(room, "a row and a ring", room.rows(15), 2);
        Check.taken(room, "a row, a ring and one of 0", room.rows(31), 3);
    }

    private static void rowsOfAll() {
        Check.part("20 ROWS of 20 PLATES");
        PlateRoom room = made(EdgesBoundsTest::inARow);
        Check.taken(room, "a row", room.rows(ALL), 1);
        Check.taken(room, "each second one", room.rows(ALL / 3), 10);
        Check.taken(room, "each second one, from 1 on", room.rows(ALL / 3 * 2), 10);
        PlateRoom apart = Rooms.of(20, 0);
        Check.taken(apart, "all of edge 0", apart.rows(ALL), 20);
        for (int k = 0; k < 20; k++) {
            apart.edges(k, 80 + k, 80 + k);
        }
        Check.taken(apart, "twenty rings", apart.rows(ALL), 20);
        for (int k = 0; k < 20; k++) {
            apart.edges(k, 50, k < 10 ? 50 : 60 + k);
        }
        Check.taken(apart, "ten go on, ten end", apart.rows(ALL), 10);
    }

    private static void rowsLeaveOut() {
        Check.part("19 and 20 OUT is the ROW of row() alone");
        PlateRoom room = made(EdgesBoundsTest::withRow);
        room.ring(8);
        room.rows(31);
        room.rows(0);
        Check.due("out(0)", room.out(0), 0);
        Check.due("out(2)", room.out(2), 2);
        Check.due("out(3)", room.out(3), -1);
    }

    private static void emptyOut() {
        Check.part("21 an empty OUT");
        PlateRoom room = room(1, 2, 2, 3);
        room.ring(3);
        room.rows(3);
        room.row(0);
        for (int k : new int[] {-1, 0, 1, 2, 19, 20, Integer.MIN_VALUE, Integer.MAX_VALUE}) {
            Check.due("out(" + k + ")", room.out(k), -1);
        }
    }

    private static void outBeyond() {
        Check.part("21 NONE if there is none such");
        PlateRoom room = made(EdgesBoundsTest::withRow);
        Check.due("out(0)", room.out(0), 0);
        Check.due("out(2)", room.out(2), 2);
        for (int k : new int[] {3, 4, 19, 20, 21, 256, 65536, Integer.MAX_VALUE, -1, -2, Integer.MIN_VALUE}) {
            Check.due("out(" + k + ")", room.out(k), -1);
        }
        Check.due("out(2) again", room.out(2), 2);
    }

    private static void outOfTheLatestRow() {
        Check.part("21 of the latest ROW, without what is left of a longer one");
        PlateRoom room = made(EdgesBoundsTest::withRow);
        dueRow("a shorter one", room, 6, 1, 2);
        dueRow("a single one", room, 8, 3);
        Check.due("out(1)", room.out(1), -1);
        Check.due("out(2)", room.out(2), -1);
        dueRow("a longer one", room, 7, 0, 1, 2);
    }

    private static void outOfAll() {
        Check.part("21 an OUT of 20 bytes");
        PlateRoom room = Rooms.of(20, 0);
        for (int k = 0; k < 20; k++) {
            room.edges(k, 20 - k, 19 - k == 0 ? 99 : 19 - k);
        }
        room.row(ALL);
        Check.due("out(0)", room.out(0), 0);
        Check.due("out(18)", room.out(18), 18);
        Check.due("out(19)", room.out(19), 19);
        for (int k : new int[] {20, 21, -1, Integer.MAX_VALUE}) {
            Check.due("out(" + k + ")", room.out(k), -1);
        }
    }
}
