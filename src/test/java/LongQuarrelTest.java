import java.util.Arrays;
import java.util.Random;

/**
 * Promise 14 with quarrels of many limits: facts that are true of hidden times but for a little
 * room in each, then some that ask too much. Answers against SlowRoom's.
 */
public final class LongQuarrelTest {
    private final Random random;
    private final PlateRoom room = new PlateRoom();
    private final SlowRoom slow = new SlowRoom();
    private final int[] taken;
    private final int[] began;
    private final int[] ended;
    private final Integer[] byTime;
    private final int slack;

    private LongQuarrelTest(long seed) {
        random = new Random(seed);
        taken = new int[5 + random.nextInt(16)];
        began = new int[random.nextInt(17)];
        ended = new int[began.length];
        byTime = new Integer[taken.length];
        slack = 1 + random.nextInt(4);
        int last = random.nextBoolean() ? 40 : 90000;
        for (int p = 0; p < taken.length; p++) {
            taken[p] = random.nextInt(last);
            byTime[p] = p;
            room.plate();
            slow.plate();
        }
        for (int m = 0; m < began.length; m++) {
            began[m] = random.nextInt(last);
            ended[m] = began[m] + (random.nextInt(3) == 0 ? 0 : random.nextInt(last / 10));
            room.motif();
            slow.motif();
        }
        Arrays.sort(byTime, (p, q) -> taken[p] - taken[q]);
    }

    public static void main(String[] args) {
        int longest = 0;
        for (int seed = 1; seed <= 400; seed++) {
            Check.part("14 seed " + seed);
            LongQuarrelTest test = new LongQuarrelTest(seed);
            test.tellWhatHolds();
            test.tellTooMuch();
            longest = Math.max(longest, test.compare());
        }
        Check.due("long quarrels occur", longest >= 8, true);
        Check.finish();
    }

    private void tellWhatHolds() {
        for (int k = 0; k < 90; k++) {
            int kind = random.nextInt(12);
            if (kind < 8) {
                neighbours();
            } else if (kind == 8) {
                aroundPlate(random.nextInt(taken.length));
            } else if (began.length > 0) {
                aroundMotif(random.nextInt(taken.length), random.nextInt(began.length));
            }
        }
    }

    private void ahead(int p, int q, int more) {
        int n = taken[q] - taken[p] + more;
        Check.due("ahead()", room.ahead(p, q, n, 0), slow.ahead(p, q, n, 0));
    }

    private void neighbours() {
        int first = random.nextInt(taken.length - 1);
        int p = byTime[first];
        int q = byTime[Math.min(taken.length - 1, first + 1 + random.nextInt(2))];
        int less = -random.nextInt(slack);
        if (random.nextInt(3) == 0) {
            ahead(q, p, less);
        } else {
            ahead(p, q, less);
        }
    }

    private void aroundPlate(int p) {
        if (random.nextInt(6) == 0) {
            int from = Math.max(0, taken[p] - random.nextInt(slack));
            int to = taken[p] + random.nextInt(slack);
            Check.due("taken()", room.taken(p, from, to, 0), slow.taken(p, from, to, 0));
        }
    }

    private void aroundMotif(int p, int m) {
        if (taken[p] >= began[m] && taken[p] <= ended[m]) {
            Check.due("shows()", room.shows(p, m, 0), slow.shows(p, m, 0));
        } else if (random.nextInt(5) == 0) {
            boolean end = random.nextBoolean();
            int from = end ? ended[m] : began[m];
            Check.due("stood()", room.stood(m, end, from, from + slack, 0), slow.stood(m, end, from, from + slack, 0));
        }
    }

    private void tellTooMuch() {
        int more = 1 + random.nextInt(3);
        int third = taken.length / 3 + 1;
        for (int k = 0; k < 6 && slow.quarrel(0) == PlateRoom.NONE; k++) {
            int p = byTime[random.nextInt(third)];
            int q = byTime[taken.length - 1 - random.nextInt(third)];
            if (random.nextBoolean()) {
                ahead(p, q, more);
            } else {
                ahead(q, p, more);
            }
        }
    }

    private int compare() {
        int due = slow.quarrel(0);
        Check.due("quarrel()", room.quarrel(0), due);
        Check.due("status()", room.status(), slow.status);
        return due;
    }
}
