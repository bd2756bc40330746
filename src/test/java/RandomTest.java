import java.util.Random;

/** Random runs (of fixed seeds, below 512 calls each) with every answer and status against SlowRoom's. */
public final class RandomTest {
    private static final int[] ODD = {-1, -2, 100, 101, 10000, 100001, -100001, 200001, 1 << 20, 1 << 31, 0x7fffffff};

    private final Random random;
    private final PlateRoom room = new PlateRoom();
    private final SlowRoom slow = new SlowRoom();
    private final int mostPlates;
    private final int mostMotifs;
    private final int mostDays;
    private final int mostTime;
    private int plates = 0;
    private int motifs = 0;
    private int facts = 0;

    private RandomTest(long seed, int mostPlates, int mostMotifs) {
        this.random = new Random(seed);
        this.mostPlates = mostPlates;
        this.mostMotifs = mostMotifs;
        this.mostDays = random.nextInt(3) == 0 ? 10000 : 6;
        this.mostTime = random.nextInt(3) == 0 ? 100001 : 12;
    }

    public static void main(String[] args) {
        for (int seed = 1; seed <= 300 && Check.wrongSoFar() < 20; seed++) {
            Check.part("times, seed " + seed);
            new RandomTest(seed, 1 + seed % 7, seed % 4).run(0, 14, 120);
        }
        for (int seed = 1; seed <= 35 && Check.wrongSoFar() < 20; seed++) {
            Check.part("full times, seed " + seed);
            new RandomTest(seed, 20, 16).run(0, 14, 190);
        }
        for (int seed = 1; seed <= 300 && Check.wrongSoFar() < 20; seed++) {
            Check.part("edges, seed " + seed);
            new RandomTest(seed, 1 + seed % 9, 0).run(14, 19, 100);
        }
        for (int seed = 1; seed <= 200 && Check.wrongSoFar() < 20; seed++) {
            Check.part("copies, seed " + seed);
            new RandomTest(seed, 1 + seed % 9, 0).run(19, 22, 80);
        }
        for (int seed = 1; seed <= 60 && Check.wrongSoFar() < 20; seed++) {
            Check.part("rights, seed " + seed);
            new RandomTest(seed, 1 + seed % 9, 0).run(22, 25, 150);
        }
        for (int seed = 1; seed <= 100 && Check.wrongSoFar() < 20; seed++) {
            Check.part("all, seed " + seed);
            new RandomTest(seed, 1 + seed % 6, 3).run(0, 25, 180);
        }
        Check.finish();
    }

    private void run(int firstCall, int behindCall, int calls) {
        int first = random.nextInt(2) == 0 ? mostPlates : random.nextInt(mostPlates + 1);
        for (int k = 0; k < first; k++) {
            one(0);
        }
        for (int k = 0; k < first && firstCall == 0; k++) {
            one(1);
        }
        for (int k = 0; k < calls && Check.wrongSoFar() < 20; k++) {
            one(firstCall + random.nextInt(behindCall - firstCall));
        }
    }

    private int below(int bound) {
        return random.nextInt(40) == 0 ? ODD[random.nextInt(ODD.length)] : random.nextInt(Math.max(1, bound));
    }

    private int number(int count) {
        return random.nextInt(30) == 0 ? count : below(count);
    }

    private int day() {
        return below(mostDays);
    }

    private int time() {
        int edge = random.nextInt(20);
        return edge == 0 ? 100000 : edge == 1 ? 0 : below(mostTime);
    }

    private int step() {
        int edge = random.nextInt(25);
        if (edge < 3) {
            return edge == 0 ? 100000 : edge == 1 ? -100000 : 50000;
        }
        return mostTime > 100 ? below(60001) - 30000 : below(9) - 4;
    }

    private void one(int call) {
        if (call == 0 && plates >= mostPlates && mostPlates < 20 || call == 1 && motifs >= mostMotifs && mostMotifs < 16) {
            return;
        }
        if (call < 14) {
            aboutTimes(call);
        } else {
            aboutTheRest(call);
        }
        Check.due("status()", room.status(), slow.status);
    }

    private void due(String call, int got, int want) {
        Check.due(call, got, want);
    }

    private void due(String call, boolean got, int want) {
        Check.due(call, got, want == 1);
    }

    private void told(String call, int got, int want) {
        due(call, got, want);
        facts += want >= 0 ? 1 : 0;
    }

    private void aboutTimes(int call) {
        int p = number(plates);
        int q = number(plates);
        int m = number(motifs);
        int f = number(facts);
        int d = day();
        boolean end = random.nextBoolean();
        boolean greatest = random.nextBoolean();
        int from = time();
        int to = random.nextInt(12) == 0 ? time() : from + below(5);
        int n = step();
        switch (call) {
            case 0 -> {
                int got = slow.plate();
                due("plate()", room.plate(), got);
                plates += got >= 0 ? 1 : 0;
            }
            case 1 -> {
                int got = slow.motif();
                due("motif()", room.motif(), got);
                motifs += got >= 0 ? 1 : 0;
            }
            case 2 -> told("shows()", room.shows(p, m, d), slow.shows(p, m, d));
            case 3 -> told("ahead()", room.ahead(p, q, n, d), slow.ahead(p, q, n, d));
            case 4 -> told("same()", room.same(p, q, d), slow.same(p, q, d));
            case 5 -> told("taken()", room.taken(p, from, to, d), slow.taken(p, from, to, d));
            case 6 -> told("stood()", room.stood(m, end, from, to, d), slow.stood(m, end, from, to, d));
            case 7 -> due("cross()", room.cross(f, d), slow.cross(f, d));
            case 8 -> {
                int what = below(4);
                due("fact()", room.fact(f, what), slow.fact(f, what));
            }
            case 9 -> due("span()", room.span(p, greatest, d), slow.span(p, greatest, d));
            case 10 -> due("times()", room.times(m, end, greatest, d), slow.times(m, end, greatest, d));
            case 11 -> due("quarrel()", room.quarrel(d), slow.quarrel(d));
            case 12 -> due("frees()", room.frees(f, d), slow.frees(f, d));
            default -> due("order()", room.order(p, q, d), slow.order(p, q, d));
        }
    }

    private void aboutTheRest(int call) {
        int p = number(plates);
        int set = below(1 << Math.min(plates, 20));
        int left = below(random.nextInt(10) == 0 ? 100 : 4);
        int right = below(random.nextInt(10) == 0 ? 100 : 4);
        int hours = random.nextInt(20) == 0 ? below(52) : 1 + below(5);
        int lost = random.nextInt(8) == 0 ? below(502) : 1 + below(14);
        int wanted = below(random.nextInt(4) == 0 ? 100 : 3);
        int d = day();
        switch (call) {
            case 14 -> due("edges()", room.edges(p, left, right), slow.edges(p, left, right));
            case 15 -> due("row(" + set + ")", room.row(set), slow.row(set));
            case 16 -> due("ring(" + set + ")", room.ring(set), slow.ring(set));
            case 17 -> due("rows(" + set + ")", room.rows(set), slow.rows(set));
            case 18 -> {
                for (int k = -1; k <= plates; k++) {
                    due("out(" + k + ")", room.out(k), slow.out(k));
                }
            }
            case 19 -> due("want()", room.want(p, wanted, hours, lost), slow.want(p, wanted, hours, lost));
            case 20 -> due("best()", room.best(), slow.best());
            case 21 -> due("hour()", room.hour(p), slow.hour(p));
            case 22 -> {
                int from = below(40);
                int days = below(30);
                due("law()", room.law(from, days), slow.law(from, days));
            }
            case 23 -> {
                int death = below(40);
                due("death()", room.death(p, death, d), slow.death(p, death, d));
            }
            default -> {
                int day = random.nextInt(20) == 0 ? 200000 : below(90);
                due("free()", room.free(p, day, d), slow.free(p, day, d));
            }
        }
    }
}
