import java.util.function.BiFunction;
import java.util.function.Consumer;

/** Looks at one argument of a call at its bounds, just inside and just outside of them, and far away. */
final class Bounds {
    private Bounds() {
    }

    /** A number from least to greatest: all others have status 2. */
    static void number(String name, int least, int greatest, Consumer<PlateRoom> making,
            BiFunction<PlateRoom, Integer, Object> call) {
        for (int fine : new int[] {least, least + 1, greatest - 1, greatest}) {
            taken(name, fine, making, call);
        }
        int[] wrongs = {least - 1, greatest + 1, greatest + 65536, least - 65536, Integer.MIN_VALUE, Integer.MAX_VALUE};
        for (int wrong : wrongs) {
            Twins.refused(name + " " + wrong, 2, making, room -> call.apply(room, wrong));
        }
    }

    static void day(String name, Consumer<PlateRoom> making, BiFunction<PlateRoom, Integer, Object> call) {
        number(name + " on day", 0, 9999, making, call);
    }

    /** The number of one of so many PLATES, MOTIFS or FACTS: all others have status 1. */
    static void which(String name, int count, Consumer<PlateRoom> making,
            BiFunction<PlateRoom, Integer, Object> call) {
        if (count > 0) {
            taken(name, 0, making, call);
            taken(name, count - 1, making, call);
        }
        // 32 is shifted as 0 is, 256 is 0 as a byte, 65536 as a short.
        for (int wrong : new int[] {-1, count, 32, 256, 65536, Integer.MIN_VALUE, Integer.MAX_VALUE}) {
            if (wrong < 0 || wrong >= count) {
                Twins.refused(name + " " + wrong, 1, making, room -> call.apply(room, wrong));
            }
        }
    }

    private static void taken(String name, int number, Consumer<PlateRoom> making,
            BiFunction<PlateRoom, Integer, Object> call) {
        PlateRoom room = new PlateRoom();
        making.accept(room);
        Object got = call.apply(room, number);
        Check.due(name + " " + number + ", status", room.status(), 0);
        Check.due(name + " " + number + " gives none", Integer.valueOf(PlateRoom.NONE).equals(got), false);
        Check.due(name + " " + number + " gives false", Boolean.FALSE.equals(got), false);
    }
}
