import java.util.Arrays;
import java.util.Comparator;
import java.util.HashSet;
import java.util.Random;
import java.util.Set;

/** Promises 18 to 20, 23 and 24 with all 20 plates (random, of fixed seeds), against searches of their own. */
public final class FullRoomTest {
    private static final int PLATES = 20;
    private static final int ALL = (1 << PLATES) - 1;

    private final Random random;
    private final PlateRoom room = Rooms.of(PLATES, 0);
    private final int[] lefts = new int[PLATES];
    private final int[] rights = new int[PLATES];
    private final int[] wanted = new int[PLATES];
    private final int[] hours = new int[PLATES];
    private final int[] losses = new int[PLATES];
    private final Set<Long> dead = new HashSet<>();

    private FullRoomTest(long seed) {
        this.random = new Random(seed);
    }

    public static void main(String[] args) {
        for (int seed = 1; seed <= 400 && Check.wrongSoFar() < 20; seed++) {
            Check.part("row and ring, seed " + seed);
            new FullRoomTest(seed).rowsInARow();
        }
        for (int seed = 1; seed <= 5 && Check.wrongSoFar() < 20; seed++) {
            Check.part("rows, seed " + seed);
            new FullRoomTest(seed).fewestRows();
        }
        for (int seed = 1; seed <= 12 && Check.wrongSoFar() < 20; seed++) {
            Check.part("best and hour, seed " + seed);
            new FullRoomTest(seed).bestSet(seed % 3 == 0 ? 100 : 1 + seed % 3);
        }
        Check.finish();
    }

    private static boolean holds(int set, int plate) {
        return (set >> plate & 1) != 0;
    }

    private boolean fits(int plate, int next) {
        return rights[plate] != 0 && rights[plate] == lefts[next];
    }

    private void tellEdges() {
        for (int k = 0; k < PLATES; k++) {
            room.edges(k, lefts[k], rights[k]);
        }
    }

    private int[] shuffled() {
        int[] plates = new int[PLATES];
        for (int k = 0; k < PLATES; k++) {
            int other = random.nextInt(k + 1);
            plates[k] = plates[other];
            plates[other] = k;
        }
        return plates;
    }

    // ---- rows

    /** Edges along a way that is torn now and then, so that most sets have many rows and some have none. */
    private void layAWay() {
        int kinds = 1 + random.nextInt(8);
        int start = 1 + random.nextInt(kinds);
        int at = start;
        int[] plates = shuffled();
        for (int k = 0; k < PLATES; k++) {
            lefts[plates[k]] = random.nextInt(150) == 0 ? 0 : at;
            at = k == PLATES - 1 && random.nextBoolean() ? start : 1 + random.nextInt(kinds);
            rights[plates[k]] = random.nextInt(150) == 0 ? 0 : at;
        }
        tellEdges();
    }

    private void rowsInARow() {
        layAWay();
        dueRow(ALL);
        dueRow(ALL & ~(1 << random.nextInt(PLATES)));
        dueRow(1 + random.nextInt(ALL));
    }

    private void dueRow(int set) {
        int length = Integer.bitCount(set);
        int[] row = new int[length];
        dead.clear();
        if (!put(row, 0, set)) {
            Check.refused(room, "row(" + set + ")", room.row(set), 7);
            Check.refused(room, "ring(" + set + ")", room.ring(set), 7);
            return;
        }
        Check.taken(room, "row(" + set + ")", room.row(set), length);
        for (int k = 0; k < length; k++) {
            Check.due("row(" + set + "), out(" + k + ")", room.out(k), row[k]);
        }
        Check.due("row(" + set + "), out() behind it", room.out(length), -1);
        Check.taken(room, "ring(" + set + ")", room.ring(set), fits(row[length - 1], row[0]) ? 1 : 0);
    }

    /** Tries all by their numbers; what can't follow an edge once can't follow it later either. */
    private boolean put(int[] row, int length, int rest) {
        if (rest == 0) {
            return true;
        }
        long place = (long) rest << 8 | (length == 0 ? 255 : rights[row[length - 1]]);
        if (dead.contains(place)) {
            return false;
        }
        for (int plate = 0; plate < PLATES; plate++) {
            if (holds(rest, plate) && (length == 0 || fits(row[length - 1], plate))) {
                row[length] = plate;
                if (put(row, length + 1, rest & ~(1 << plate))) {
                    return true;
                }
            }
        }
        dead.add(place);
        return false;
    }

    private void fewestRows() {
        int kinds = 2 + random.nextInt(12);
        for (int k = 0; k < PLATES; k++) {
            lefts[k] = random.nextInt(kinds);
            rights[k] = random.nextInt(kinds);
        }
        tellEdges();
        byte[] fewest = fewestByLast();
        int[] sets = {ALL, 1 + random.nextInt(ALL), 1 + random.nextInt(ALL), 1 + random.nextInt(ALL)};
        for (int set : sets) {
            int least = PLATES;
            for (int last = 0; last < PLATES; last++) {
                least = holds(set, last) ? Math.min(least, fewest[set * PLATES + last]) : least;
            }
            Check.taken(room, "rows(" + set + ")", room.rows(set), least);
        }
    }

    /** Of each set and each last plate the fewest rows, one row behind the other. */
    private byte[] fewestByLast() {
        byte[] fewest = new byte[PLATES << PLATES];
        for (int set = 1; set <= ALL; set++) {
            for (int last = 0; last < PLATES; last++) {
                int rest = set & ~(1 << last);
                int count = rest == 0 ? 1 : PLATES;
                for (int some = holds(set, last) ? rest : 0; some != 0; some &= some - 1) {
                    int plate = Integer.numberOfTrailingZeros(some);
                    count = Math.min(count, fewest[rest * PLATES + plate] + (fits(plate, last) ? 0 : 1));
                }
                fewest[set * PLATES + last] = (byte) count;
            }
        }
        return fewest;
    }

    // ---- copies

    private void bestSet(int mostWanted) {
        // Little time for all of them, so that many sets are left out and, of few wishes, many are alike.
        int mostHours = 2 + random.nextInt(49);
        int latest = 6 * mostHours + random.nextInt(4 * mostHours);
        for (int k = 0; k < PLATES; k++) {
            wanted[k] = random.nextInt(mostWanted);
            hours[k] = 1 + random.nextInt(mostHours);
            losses[k] = 1 + random.nextInt(latest);
            room.want(k, wanted[k], hours[k], losses[k]);
        }
        Integer[] turns = new Integer[PLATES];
        Arrays.setAll(turns, k -> k);
        Arrays.sort(turns, Comparator.comparingInt(plate -> losses[plate]));
        int best = bestOfAllSets(turns);
        int together = 0;
        int hour = 0;
        for (int plate : turns) {
            if (holds(best, plate)) {
                Check.taken(room, "hour(" + plate + ")", room.hour(plate), hour);
                hour += hours[plate];
                together += wanted[plate];
            } else {
                Check.refused(room, "hour(" + plate + ")", room.hour(plate), 8);
            }
        }
        Check.taken(room, "best()", room.best(), together);
    }

    private int bestOfAllSets(Integer[] turns) {
        int best = 0;
        int most = 0;
        for (int set = 1; set <= ALL; set++) {
            int together = wantedInTime(set, turns);
            int alone = set ^ best;
            boolean hasTheLeast = (set & alone & -alone) != 0;
            if (together > most || together == most && hasTheLeast) {
                best = set;
                most = together;
            }
        }
        return best;
    }

    /** How wanted a set is; -1, if not all of it can be in time. */
    private int wantedInTime(int set, Integer[] turns) {
        int hour = 0;
        int together = 0;
        for (int plate : turns) {
            if (holds(set, plate)) {
                hour += hours[plate];
                together += wanted[plate];
                if (hour > losses[plate]) {
                    return -1;
                }
            }
        }
        return together;
    }
}
