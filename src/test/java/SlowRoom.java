import java.util.ArrayList;
import java.util.Arrays;
import java.util.List;

/** The document once more, by trying everything: for small rooms, and by other means than PlateRoom. */
final class SlowRoom {
    private record Limit(int from, int to, int most) {
    }

    private static final class Told {
        final int kind;
        final int day;
        int crossed = -1;
        final List<Limit> limits = new ArrayList<>();

        Told(int kind, int day) {
            this.kind = kind;
            this.day = day;
        }

        boolean known(int on) {
            return day <= on && (crossed < 0 || crossed > on);
        }
    }

    private static final int END = 100000;
    // Above this many limits the quarrel is sought by matrices, not by trying all subsets.
    private static final int MOST_TRIED = 11;

    int status = 0;
    private int motifs = 0;
    private final List<int[]> edges = new ArrayList<>();
    private final List<int[]> wishes = new ArrayList<>();
    private final List<Told> facts = new ArrayList<>();
    private final List<int[]> laws = new ArrayList<>();
    private final List<int[]> deaths = new ArrayList<>();
    private int[] out = new int[0];

    private int no(int why) {
        status = why;
        return -1;
    }

    private int yes(int value) {
        status = 0;
        return value;
    }

    private boolean isPlate(int p) {
        return 0 <= p && p < edges.size();
    }

    private boolean isMotif(int m) {
        return 0 <= m && m < motifs;
    }

    private static boolean isDay(int d) {
        return 0 <= d && d <= 9999;
    }

    private static boolean isTime(int t) {
        return 0 <= t && t <= END;
    }

    int plate() {
        if (edges.size() == 20) {
            return no(3);
        }
        edges.add(new int[] {0, 0});
        wishes.add(new int[] {0, 1, 500});
        return yes(edges.size() - 1);
    }

    int motif() {
        if (motifs == 16) {
            return no(3);
        }
        return yes(motifs++);
    }

    private static int at(int plate) {
        return 100 + plate;
    }

    private static int at(int motif, boolean end) {
        return (end ? 300 : 200) + motif;
    }

    private int tell(Told fact) {
        if (facts.size() == 100) {
            return no(3);
        }
        facts.add(fact);
        return yes(facts.size() - 1);
    }

    int shows(int plate, int motif, int day) {
        if (!isPlate(plate) || !isMotif(motif)) {
            return no(1);
        }
        if (!isDay(day)) {
            return no(2);
        }
        Told t = new Told(0, day);
        t.limits.add(new Limit(at(plate), at(motif, false), 0));
        t.limits.add(new Limit(at(motif, true), at(plate), 0));
        return tell(t);
    }

    int ahead(int a, int b, int n, int day) {
        if (!isPlate(a) || !isPlate(b) || a == b) {
            return no(1);
        }
        if (!isDay(day) || n < -END || n > END) {
            return no(2);
        }
        Told t = new Told(1, day);
        t.limits.add(new Limit(at(b), at(a), -n));
        return tell(t);
    }

    int same(int a, int b, int day) {
        if (!isPlate(a) || !isPlate(b) || a == b) {
            return no(1);
        }
        if (!isDay(day)) {
            return no(2);
        }
        Told t = new Told(5, day);
        t.limits.add(new Limit(at(a), at(b), 0));
        t.limits.add(new Limit(at(b), at(a), 0));
        return tell(t);
    }

    private int range(boolean exists, int kind, int point, int[] fromToDay) {
        int from = fromToDay[0];
        int to = fromToDay[1];
        if (!exists) {
            return no(1);
        }
        if (!isTime(from) || !isTime(to) || from > to || !isDay(fromToDay[2])) {
            return no(2);
        }
        Told t = new Told(kind, fromToDay[2]);
        t.limits.add(new Limit(0, point, to));
        t.limits.add(new Limit(point, 0, -from));
        return tell(t);
    }

    int taken(int plate, int from, int to, int day) {
        return range(isPlate(plate), 2, at(plate), new int[] {from, to, day});
    }

    int stood(int motif, boolean end, int from, int to, int day) {
        return range(isMotif(motif), end ? 4 : 3, at(motif, end), new int[] {from, to, day});
    }

    int cross(int fact, int day) {
        if (fact < 0 || fact >= facts.size()) {
            return no(1);
        }
        if (!isDay(day)) {
            return no(2);
        }
        if (facts.get(fact).crossed >= 0) {
            return no(4);
        }
        facts.get(fact).crossed = day;
        return yes(1);
    }

    int fact(int fact, int what) {
        if (fact < 0 || fact >= facts.size()) {
            return no(1);
        }
        if (what < 0 || what > 3) {
            return no(2);
        }
        Told t = facts.get(fact);
        return yes(new int[] {t.kind, t.day, t.crossed, t.limits.size()}[what]);
    }

    // ---- all shortest ways (Floyd and Warshall) over the points that occur

    private List<Integer> points() {
        List<Integer> points = new ArrayList<>();
        points.add(0);
        for (int p = 0; p < edges.size(); p++) {
            points.add(at(p));
        }
        for (int m = 0; m < motifs; m++) {
            points.add(at(m, false));
            points.add(at(m, true));
        }
        return points;
    }

    private List<Limit> known(int day, int without) {
        List<Limit> limits = new ArrayList<>();
        for (int k = 0; k < facts.size(); k++) {
            if (k != without && facts.get(k).known(day)) {
                limits.addAll(facts.get(k).limits);
            }
        }
        return limits;
    }

    private long[][] always(List<Integer> points) {
        int n = points.size();
        long[][] d = new long[n][n];
        for (long[] line : d) {
            Arrays.fill(line, END);
        }
        for (int k = 0; k < n; k++) {
            d[k][0] = 0;
            d[k][k] = 0;
        }
        for (int m = 0; m < motifs; m++) {
            d[points.indexOf(at(m, true))][points.indexOf(at(m, false))] = 0;
        }
        return d;
    }

    /** The greatest that time j can be above time i, [i][j]; null, if there are no times. */
    private long[][] greatest(List<Limit> limits) {
        List<Integer> points = points();
        int n = points.size();
        long[][] d = always(points);
        for (Limit l : limits) {
            int i = points.indexOf(l.from());
            int j = points.indexOf(l.to());
            d[i][j] = Math.min(d[i][j], l.most());
        }
        for (int k = 0; k < n; k++) {
            for (int i = 0; i < n; i++) {
                for (int j = 0; j < n; j++) {
                    d[i][j] = Math.min(d[i][j], d[i][k] + d[k][j]);
                }
            }
            for (int i = 0; i < n; i++) {
                if (d[i][i] < 0) {
                    return null;
                }
            }
        }
        return d;
    }

    private int ends(boolean exists, int point, boolean greatest, int day) {
        if (!exists) {
            return no(1);
        }
        if (!isDay(day)) {
            return no(2);
        }
        long[][] d = greatest(known(day, -1));
        if (d == null) {
            return no(5);
        }
        int k = points().indexOf(point);
        return yes((int) (greatest ? d[0][k] : -d[k][0]));
    }

    int span(int plate, boolean greatest, int day) {
        return ends(isPlate(plate), at(plate), greatest, day);
    }

    int times(int motif, boolean end, boolean greatest, int day) {
        return ends(isMotif(motif), at(motif, end), greatest, day);
    }

    int quarrel(int day) {
        if (!isDay(day)) {
            return no(2);
        }
        List<Limit> limits = known(day, -1);
        if (greatest(limits) != null) {
            return no(6);
        }
        return yes(limits.size() <= MOST_TRIED ? bySubsets(limits) : byMatrices(limits));
    }

    private int bySubsets(List<Limit> limits) {
        int least = limits.size();
        for (int set = 0; set < 1 << limits.size(); set++) {
            if (Integer.bitCount(set) < least) {
                List<Limit> some = new ArrayList<>();
                for (int k = 0; k < limits.size(); k++) {
                    if ((set >> k & 1) != 0) {
                        some.add(limits.get(k));
                    }
                }
                if (greatest(some) == null) {
                    least = some.size();
                }
            }
        }
        return least;
    }

    private int byMatrices(List<Limit> limits) {
        List<Integer> points = points();
        int n = points.size();
        long[][] free = greatest(List.of());
        long[][] step = new long[n][n];
        for (int i = 0; i < n; i++) {
            for (int j = 0; j < n; j++) {
                step[i][j] = free[i][j];
                for (Limit l : limits) {
                    long way = free[i][points.indexOf(l.from())] + l.most() + free[points.indexOf(l.to())][j];
                    step[i][j] = Math.min(step[i][j], way);
                }
            }
        }
        long[][] ways = free;
        for (int count = 1; ; count++) {
            long[][] next = new long[n][n];
            for (int i = 0; i < n; i++) {
                for (int j = 0; j < n; j++) {
                    next[i][j] = Long.MAX_VALUE;
                    for (int k = 0; k < n; k++) {
                        next[i][j] = Math.min(next[i][j], ways[i][k] + step[k][j]);
                    }
                }
                if (next[i][i] < 0) {
                    return count;
                }
            }
            ways = next;
        }
    }

    int frees(int fact, int day) {
        if (fact < 0 || fact >= facts.size()) {
            return no(1);
        }
        if (!isDay(day)) {
            return no(2);
        }
        if (greatest(known(day, -1)) != null) {
            return no(6);
        }
        if (!facts.get(fact).known(day)) {
            return no(8);
        }
        return yes(greatest(known(day, fact)) != null ? 1 : 0);
    }

    int order(int a, int b, int day) {
        if (!isPlate(a) || !isPlate(b) || a == b) {
            return no(1);
        }
        if (!isDay(day)) {
            return no(2);
        }
        List<Limit> limits = known(day, -1);
        if (greatest(limits) == null) {
            return no(5);
        }
        // Ahead of it for certain: there are no times with b not behind a; can have been: there are with a ahead.
        List<Limit> not = new ArrayList<>(limits);
        not.add(new Limit(at(a), at(b), 0));
        List<Limit> can = new ArrayList<>(limits);
        can.add(new Limit(at(b), at(a), -1));
        return yes(greatest(not) == null ? 2 : greatest(can) != null ? 1 : 0);
    }

    // ---- rows by trying

    int edges(int plate, int left, int right) {
        if (!isPlate(plate)) {
            return no(1);
        }
        if (left < 0 || left > 99 || right < 0 || right > 99) {
            return no(2);
        }
        edges.set(plate, new int[] {left, right});
        return yes(1);
    }

    private boolean fits(int p, int q) {
        return edges.get(p)[1] != 0 && edges.get(p)[1] == edges.get(q)[0];
    }

    private boolean isSet(int set) {
        return set >= 0 && set < 1 << edges.size();
    }

    private boolean put(int[] row, int length, int rest) {
        if (rest == 0) {
            return true;
        }
        for (int p = 0; p < edges.size(); p++) {
            if ((rest >> p & 1) != 0 && (length == 0 || fits(row[length - 1], p))) {
                row[length] = p;
                if (put(row, length + 1, rest & ~(1 << p))) {
                    return true;
                }
            }
        }
        return false;
    }

    private int[] firstRow(int set) {
        if (set == 0 || !isSet(set)) {
            no(2);
            return null;
        }
        int[] row = new int[Integer.bitCount(set)];
        if (!put(row, 0, set)) {
            no(7);
            return null;
        }
        return row;
    }

    int row(int set) {
        int[] row = firstRow(set);
        if (row == null) {
            return -1;
        }
        out = row;
        return yes(row.length);
    }

    int ring(int set) {
        int[] row = firstRow(set);
        if (row == null) {
            return -1;
        }
        return yes(fits(row[row.length - 1], row[0]) ? 1 : 0);
    }

    /** Of each part of the set and each last plate the fewest rows, one plate behind the other. */
    int rows(int set) {
        if (!isSet(set)) {
            return no(2);
        }
        int n = edges.size();
        if (set == 0) {
            return yes(0);
        }
        int[][] fewest = new int[1 << n][n];
        int least = n;
        for (int part = 1; part < 1 << n; part++) {
            if ((part & ~set) != 0) {
                continue;
            }
            for (int last = 0; last < n; last++) {
                if ((part >> last & 1) == 0) {
                    continue;
                }
                int rest = part & ~(1 << last);
                int count = rest == 0 ? 1 : n;
                for (int p = 0; p < n; p++) {
                    if ((rest >> p & 1) != 0) {
                        count = Math.min(count, fewest[rest][p] + (fits(p, last) ? 0 : 1));
                    }
                }
                fewest[part][last] = count;
                if (part == set) {
                    least = Math.min(least, count);
                }
            }
        }
        return yes(least);
    }

    int out(int k) {
        return k >= 0 && k < out.length ? out[k] : -1;
    }

    // ---- copies by trying all sets

    int want(int plate, int wanted, int hours, int lost) {
        if (!isPlate(plate)) {
            return no(1);
        }
        if (wanted < 0 || wanted > 99 || hours < 1 || hours > 50 || lost < 1 || lost > 500) {
            return no(2);
        }
        wishes.set(plate, new int[] {wanted, hours, lost});
        return yes(1);
    }

    /** The hours at which the plates of a set begin; null, if they can't all be in time. */
    private int[] begins(int set) {
        List<Integer> turns = new ArrayList<>();
        for (int p = 0; p < wishes.size(); p++) {
            if ((set >> p & 1) != 0) {
                turns.add(p);
            }
        }
        turns.sort((p, q) -> wishes.get(p)[2] - wishes.get(q)[2]);
        int[] begins = new int[wishes.size()];
        Arrays.fill(begins, -1);
        int hour = 0;
        for (int p : turns) {
            begins[p] = hour;
            hour += wishes.get(p)[1];
            if (hour > wishes.get(p)[2]) {
                return null;
            }
        }
        return begins;
    }

    private int wanted(int set) {
        int sum = 0;
        for (int p = 0; p < wishes.size(); p++) {
            sum += (set >> p & 1) * wishes.get(p)[0];
        }
        return sum;
    }

    private int bestSet() {
        int best = 0;
        for (int set = 1; set < 1 << wishes.size(); set++) {
            int alone = set ^ best;
            boolean first = (set & alone & -alone) != 0;
            int more = wanted(set) - wanted(best);
            if ((more > 0 || more == 0 && first) && begins(set) != null) {
                best = set;
            }
        }
        return best;
    }

    int best() {
        return yes(wanted(bestSet()));
    }

    int hour(int plate) {
        if (!isPlate(plate)) {
            return no(1);
        }
        int begin = begins(bestSet())[plate];
        return begin < 0 ? no(8) : yes(begin);
    }

    // ---- rights

    int law(int from, int days) {
        if (from < 0 || from > 100000 || days < 0 || days > 50000) {
            return no(2);
        }
        if (laws.size() == 10) {
            return no(3);
        }
        laws.add(new int[] {from, days});
        return yes(1);
    }

    int death(int plate, int day, int told) {
        if (!isPlate(plate)) {
            return no(1);
        }
        if (day < 0 || day > 100000 || !isDay(told)) {
            return no(2);
        }
        if (deaths.size() == 60) {
            return no(3);
        }
        deaths.add(new int[] {plate, day, told});
        return yes(1);
    }

    int free(int plate, int day, int known) {
        if (!isPlate(plate)) {
            return no(1);
        }
        if (day < 0 || day > 200000 || !isDay(known)) {
            return no(2);
        }
        int[] law = null;
        for (int from = 0; from <= day && from <= 100000; from++) {
            for (int[] l : laws) {
                law = l[0] == from ? l : law;
            }
        }
        int[] death = null;
        for (int told = 0; told <= known; told++) {
            for (int[] d : deaths) {
                death = d[0] == plate && d[2] == told ? d : death;
            }
        }
        return yes(law != null && death != null && law[1] + death[1] <= day ? 1 : 0);
    }
}
