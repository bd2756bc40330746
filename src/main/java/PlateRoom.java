import java.util.Arrays;

/** A room of glass plates: when they were taken, how they stand in rows, what is copied, what may be shown. */
public final class PlateRoom {
    public static final int NONE = -1;

    private static final int MOST_PLATES = 20;
    private static final int MOST_MOTIFS = 16;
    private static final int MOST_FACTS = 100;
    private static final int MOST_LIMITS = 2 * MOST_FACTS;
    private static final int MOST_LAWS = 10;
    private static final int MOST_DEATHS = 60;

    private static final int LAST_DAY = 9999;
    private static final int LAST_TIME = 100000;
    private static final int LAST_EDGE = 99;
    private static final int MOST_WANTED = 99;
    private static final int MOST_HOURS = 50;
    private static final int LAST_HOUR = 500;
    private static final int LAST_LAW = 100000;
    private static final int MOST_LAW_DAYS = 50000;
    private static final int LAST_DEATH = 100000;
    private static final int LAST_SHOWING = 200000;

    private static final int FINE = 0;
    private static final int NO_SUCH = 1;
    private static final int CANNOT_BE = 2;
    private static final int TOO_MANY = 3;
    private static final int CROSSED_ALREADY = 4;
    private static final int NOT_AGREED = 5;
    private static final int AGREED = 6;
    private static final int NO_ROW = 7;
    private static final int NOT_IN_IT = 8;

    private static final int SHOWS = 0;
    private static final int AHEAD = 1;
    private static final int TAKEN = 2;
    private static final int BEGAN = 3;
    private static final int ENDED = 4;
    private static final int SAME = 5;

    // The points of the graph of times: the time 0 itself, one for each plate, two for each motif.
    private static final int ORIGIN = 0;
    private static final int FIRST_PLATE_POINT = 1;
    private static final int FIRST_MOTIF_POINT = FIRST_PLATE_POINT + MOST_PLATES;
    private static final int POINTS = FIRST_MOTIF_POINT + 2 * MOST_MOTIFS;

    // Far above every way's length, and far enough below the greatest int for sums.
    private static final int FAR = 1 << 29;

    private final FactBook facts = new FactBook();
    private final TimeGraph graph = new TimeGraph();
    private final EdgeTable table = new EdgeTable();
    private final CopyPlan plan = new CopyPlan();
    private final RightsBook rights = new RightsBook();
    private final int[] outRow = new int[MOST_PLATES];
    private int outLength;
    private int plateCount;
    private int motifCount;
    private int lastStatus;

    public PlateRoom() {
        lastStatus = FINE;
    }

    public int status() {
        return lastStatus;
    }

    // ---- TIMES

    public int plate() {
        if (plateCount >= MOST_PLATES) {
            return refuse(TOO_MANY);
        }
        plateCount++;
        return answer(plateCount - 1);
    }

    public int motif() {
        if (motifCount >= MOST_MOTIFS) {
            return refuse(TOO_MANY);
        }
        motifCount++;
        return answer(motifCount - 1);
    }

    public int shows(int plate, int motif, int day) {
        int why = whyNoFact(isPlate(plate) && isMotif(motif), isDay(day));
        if (why != FINE) {
            return refuse(why);
        }
        int number = facts.tell(SHOWS, day);
        facts.addLimit(platePoint(plate), motifPoint(motif, false), 0);
        facts.addLimit(motifPoint(motif, true), platePoint(plate), 0);
        return answer(number);
    }

    public int ahead(int a, int b, int n, int day) {
        int why = whyNoFact(areTwoPlates(a, b), isWithin(n, -LAST_TIME, LAST_TIME) && isDay(day));
        if (why != FINE) {
            return refuse(why);
        }
        int number = facts.tell(AHEAD, day);
        facts.addLimit(platePoint(b), platePoint(a), -n);
        return answer(number);
    }

    public int same(int a, int b, int day) {
        int why = whyNoFact(areTwoPlates(a, b), isDay(day));
        if (why != FINE) {
            return refuse(why);
        }
        int number = facts.tell(SAME, day);
        facts.addLimit(platePoint(a), platePoint(b), 0);
        facts.addLimit(platePoint(b), platePoint(a), 0);
        return answer(number);
    }

    public int taken(int plate, int from, int to, int day) {
        int why = whyNoFact(isPlate(plate), isTimeRange(from, to) && isDay(day));
        if (why != FINE) {
            return refuse(why);
        }
        return tellRange(TAKEN, platePoint(plate), from, to, day);
    }

    public int stood(int motif, boolean end, int from, int to, int day) {
        int why = whyNoFact(isMotif(motif), isTimeRange(from, to) && isDay(day));
        if (why != FINE) {
            return refuse(why);
        }
        return tellRange(end ? ENDED : BEGAN, motifPoint(motif, end), from, to, day);
    }

    public boolean cross(int fact, int day) {
        int why = whyNot(facts.has(fact), isDay(day));
        if (why == FINE && facts.crossingDay(fact) != NONE) {
            why = CROSSED_ALREADY;
        }
        lastStatus = why;
        if (why != FINE) {
            return false;
        }
        facts.crossOut(fact, day);
        return true;
    }

    public int fact(int fact, int what) {
        int why = whyNot(facts.has(fact), isWithin(what, 0, 3));
        if (why != FINE) {
            return refuse(why);
        }
        switch (what) {
            case 0:
                return answer(facts.kindOf(fact));
            case 1:
                return answer(facts.tellingDay(fact));
            case 2:
                return answer(facts.crossingDay(fact));
            default:
                return answer(facts.limitsOf(fact));
        }
    }

    public int span(int plate, boolean greatest, int day) {
        int why = whyNot(isPlate(plate), isDay(day));
        if (why != FINE) {
            return refuse(why);
        }
        return endOfSpan(platePoint(plate), greatest, day);
    }

    public int times(int motif, boolean end, boolean greatest, int day) {
        int why = whyNot(isMotif(motif), isDay(day));
        if (why != FINE) {
            return refuse(why);
        }
        return endOfSpan(motifPoint(motif, end), greatest, day);
    }

    public int quarrel(int day) {
        if (!isDay(day)) {
            return refuse(CANNOT_BE);
        }
        graph.gather(facts, day, NONE);
        if (graph.measureFrom(ORIGIN)) {
            return refuse(AGREED);
        }
        return answer(graph.fewestLimits());
    }

    public int frees(int fact, int day) {
        int why = whyNot(facts.has(fact), isDay(day));
        if (why != FINE) {
            return refuse(why);
        }
        graph.gather(facts, day, NONE);
        if (graph.measureFrom(ORIGIN)) {
            return refuse(AGREED);
        }
        if (!facts.isKnown(fact, day)) {
            return refuse(NOT_IN_IT);
        }
        graph.gather(facts, day, fact);
        return answer(graph.measureFrom(ORIGIN) ? 1 : 0);
    }

    public int order(int a, int b, int day) {
        int why = whyNot(areTwoPlates(a, b), isDay(day));
        if (why != FINE) {
            return refuse(why);
        }
        graph.gather(facts, day, NONE);
        if (!graph.measureFrom(platePoint(b))) {
            return refuse(NOT_AGREED);
        }
        if (graph.wayTo(platePoint(a)) < 0) {
            return answer(2);
        }
        boolean can = graph.measureFrom(platePoint(a)) && graph.wayTo(platePoint(b)) > 0;
        return answer(can ? 1 : 0);
    }

    // ---- EDGES

    public boolean edges(int plate, int left, int right) {
        boolean possible = isWithin(left, 0, LAST_EDGE) && isWithin(right, 0, LAST_EDGE);
        lastStatus = whyNot(isPlate(plate), possible);
        if (lastStatus != FINE) {
            return false;
        }
        table.setEdges(plate, left, right);
        return true;
    }

    public int row(int set) {
        int why = whyNoRow(set);
        if (why != FINE) {
            return refuse(why);
        }
        outLength = table.writeFirstRow(set, outRow);
        return answer(outLength);
    }

    public int ring(int set) {
        int why = whyNoRow(set);
        if (why != FINE) {
            return refuse(why);
        }
        return answer(table.startsIn(set) == 0 ? 1 : 0);
    }

    public int rows(int set) {
        if (!isSet(set)) {
            return refuse(CANNOT_BE);
        }
        return answer(table.fewestRows(set));
    }

    public int out(int k) {
        if (k < 0 || k >= outLength || k >= outRow.length) {
            return NONE;
        }
        return outRow[k];
    }

    // ---- copies

    public boolean want(int plate, int wanted, int hours, int lost) {
        boolean possible = isWithin(wanted, 0, MOST_WANTED) && isWithin(hours, 1, MOST_HOURS)
                && isWithin(lost, 1, LAST_HOUR);
        lastStatus = whyNot(isPlate(plate), possible);
        if (lastStatus != FINE) {
            return false;
        }
        plan.setWish(plate, wanted, hours, lost);
        return true;
    }

    public int best() {
        plan.choose(plateCount);
        return answer(plan.wantedTogether());
    }

    public int hour(int plate) {
        if (!isPlate(plate)) {
            return refuse(NO_SUCH);
        }
        plan.choose(plateCount);
        if (!plan.isChosen(plate)) {
            return refuse(NOT_IN_IT);
        }
        return answer(plan.beginningOf(plate, plateCount));
    }

    // ---- rights

    public boolean law(int from, int days) {
        int why = whyNot(true, isWithin(from, 0, LAST_LAW) && isWithin(days, 0, MOST_LAW_DAYS));
        if (why == FINE && rights.hasAllLaws()) {
            why = TOO_MANY;
        }
        lastStatus = why;
        if (why != FINE) {
            return false;
        }
        rights.addLaw(from, days);
        return true;
    }

    public boolean death(int plate, int day, int told) {
        int why = whyNot(isPlate(plate), isWithin(day, 0, LAST_DEATH) && isDay(told));
        if (why == FINE && rights.hasAllDeaths()) {
            why = TOO_MANY;
        }
        lastStatus = why;
        if (why != FINE) {
            return false;
        }
        rights.addDeath(plate, day, told);
        return true;
    }

    public int free(int plate, int day, int known) {
        int why = whyNot(isPlate(plate), isWithin(day, 0, LAST_SHOWING) && isDay(known));
        if (why != FINE) {
            return refuse(why);
        }
        return answer(rights.isFreeOn(plate, day, known) ? 1 : 0);
    }

    // ---- what the calls share

    private int refuse(int why) {
        lastStatus = why;
        return NONE;
    }

    private int answer(int value) {
        lastStatus = FINE;
        return value;
    }

    private static int whyNot(boolean exists, boolean possible) {
        if (!exists) {
            return NO_SUCH;
        }
        return possible ? FINE : CANNOT_BE;
    }

    private int whyNoFact(boolean exists, boolean possible) {
        int why = whyNot(exists, possible);
        return why == FINE && facts.isFull() ? TOO_MANY : why;
    }

    private int whyNoRow(int set) {
        if (set == 0 || !isSet(set)) {
            return CANNOT_BE;
        }
        return table.fewestRows(set) == 1 ? FINE : NO_ROW;
    }

    private static boolean isWithin(int number, int least, int greatest) {
        return number >= least && number <= greatest;
    }

    private static boolean isDay(int day) {
        return isWithin(day, 0, LAST_DAY);
    }

    private static boolean isTimeRange(int from, int to) {
        return from >= 0 && from <= to && to <= LAST_TIME;
    }

    private boolean isPlate(int plate) {
        return plate >= 0 && plate < plateCount;
    }

    private boolean isMotif(int motif) {
        return motif >= 0 && motif < motifCount;
    }

    private boolean areTwoPlates(int a, int b) {
        return isPlate(a) && isPlate(b) && a != b;
    }

    private boolean isSet(int set) {
        int all = (1 << plateCount) - 1;
        return (set & ~all) == 0;
    }

    private static int platePoint(int plate) {
        return FIRST_PLATE_POINT + plate;
    }

    private static int motifPoint(int motif, boolean end) {
        return FIRST_MOTIF_POINT + 2 * motif + (end ? 1 : 0);
    }

    private int tellRange(int kind, int point, int from, int to, int day) {
        int number = facts.tell(kind, day);
        facts.addLimit(point, ORIGIN, -from);
        facts.addLimit(ORIGIN, point, to);
        return answer(number);
    }

    private int endOfSpan(int point, boolean greatest, int day) {
        graph.gather(facts, day, NONE);
        if (!graph.measureFrom(greatest ? ORIGIN : point)) {
            return refuse(NOT_AGREED);
        }
        return answer(greatest ? graph.wayTo(point) : -graph.wayTo(ORIGIN));
    }

    /** The facts as they came. A limit says: the time at its head is not above that at its tail and its length. */
    private static final class FactBook {
        private final int[] kinds = new int[MOST_FACTS];
        private final int[] toldOn = new int[MOST_FACTS];
        private final int[] crossedOn = new int[MOST_FACTS];
        private final int[] limitCounts = new int[MOST_FACTS];
        private final int[] tails = new int[MOST_LIMITS];
        private final int[] heads = new int[MOST_LIMITS];
        private final int[] lengths = new int[MOST_LIMITS];
        private int count;

        boolean isFull() {
            return count >= MOST_FACTS;
        }

        int size() {
            return count;
        }

        boolean has(int number) {
            return number >= 0 && number < count;
        }

        int tell(int kind, int day) {
            if (isFull()) {
                return NONE;
            }
            kinds[count] = kind;
            toldOn[count] = day;
            crossedOn[count] = NONE;
            count++;
            return count - 1;
        }

        /** One limit more of the fact told last, which has at most two. */
        void addLimit(int tail, int head, int length) {
            int latest = count - 1;
            if (latest < 0 || limitCounts[latest] >= 2) {
                return;
            }
            int at = 2 * latest + limitCounts[latest];
            tails[at] = tail;
            heads[at] = head;
            lengths[at] = length;
            limitCounts[latest]++;
        }

        void crossOut(int number, int day) {
            if (has(number)) {
                crossedOn[number] = day;
            }
        }

        int kindOf(int number) {
            return has(number) ? kinds[number] : NONE;
        }

        int tellingDay(int number) {
            return has(number) ? toldOn[number] : NONE;
        }

        int crossingDay(int number) {
            return has(number) ? crossedOn[number] : NONE;
        }

        int limitsOf(int number) {
            return has(number) ? limitCounts[number] : 0;
        }

        boolean isKnown(int number, int day) {
            if (!has(number) || toldOn[number] > day) {
                return false;
            }
            return crossedOn[number] == NONE || crossedOn[number] > day;
        }

        /** Writes the limits of a fact from place `at` on, and answers the place behind them. */
        int copyLimits(int number, TimeGraph graph, int at) {
            int behind = at;
            for (int k = 0; k < limitsOf(number); k++) {
                int from = 2 * number + k;
                graph.setLimit(behind, tails[from], heads[from], lengths[from]);
                behind++;
            }
            return behind;
        }
    }

    /**
     * The limits that are known on a day, as arrows between times. Times that keep to them exist
     * if and only if no way that ends where it began is shorter than 0.
     */
    private static final class TimeGraph {
        private final int[] tails = new int[MOST_LIMITS];
        private final int[] heads = new int[MOST_LIMITS];
        private final int[] lengths = new int[MOST_LIMITS];
        private final int[] ways = new int[POINTS];
        private final int[] earlier = new int[POINTS];
        private int limitCount;

        /** Takes up the limits of the facts known on a day, but for those of the fact `without`. */
        void gather(FactBook facts, int day, int without) {
            limitCount = 0;
            for (int number = 0; number < facts.size(); number++) {
                if (number != without && facts.isKnown(number, day)) {
                    limitCount = facts.copyLimits(number, this, limitCount);
                }
            }
        }

        void setLimit(int at, int tail, int head, int length) {
            if (at < 0 || at >= MOST_LIMITS) {
                return;
            }
            tails[at] = tail;
            heads[at] = head;
            lengths[at] = length;
        }

        int wayTo(int point) {
            return point >= 0 && point < POINTS ? ways[point] : FAR;
        }

        /** Finds the shortest ways from a point to all; false, if the facts don't agree. */
        boolean measureFrom(int source) {
            if (source < 0 || source >= POINTS) {
                return false;
            }
            startAt(source, ORIGIN);
            // A shortest way has fewer arrows than there are points: what still shrinks then never ends.
            for (int round = 0; round <= POINTS; round++) {
                if (!followLimits(ways, ORIGIN)) {
                    return true;
                }
                followBounds(ORIGIN);
                if (ways[source] < 0) {
                    return false;
                }
            }
            return false;
        }

        /** How many limits the shortest quarrel has; above POINTS, if the facts agree. */
        int fewestLimits() {
            int fewest = POINTS + 1;
            // No limit joins two motifs, so no quarrel keeps to points of motifs alone.
            for (int source = 0; source < FIRST_MOTIF_POINT; source++) {
                fewest = fewerLimitsThrough(source, fewest);
            }
            return fewest;
        }

        /**
         * A quarrel is a way back to its start that is shorter than 0. Its points all differ, so it
         * is enough to seek it from its least point on and among the points not below that one.
         */
        private int fewerLimitsThrough(int source, int fewest) {
            startAt(source, source);
            int most = Math.min(fewest - 1, POINTS - source);
            for (int limits = 1; limits <= most; limits++) {
                System.arraycopy(ways, 0, earlier, 0, POINTS);
                if (!followLimits(earlier, source)) {
                    return fewest;
                }
                followBounds(source);
                if (ways[source] < 0) {
                    return limits;
                }
            }
            return fewest;
        }

        private void startAt(int source, int lowest) {
            Arrays.fill(ways, FAR);
            ways[source] = 0;
            followBounds(lowest);
        }

        /** Shortens ways by one limit behind those in `starts`, among the points from `lowest` on. */
        private boolean followLimits(int[] starts, int lowest) {
            boolean shrunk = false;
            for (int k = 0; k < limitCount; k++) {
                int tail = tails[k];
                int head = heads[k];
                if (tail < lowest || head < lowest || starts[tail] >= FAR) {
                    continue;
                }
                int way = starts[tail] + lengths[k];
                if (way < ways[head]) {
                    ways[head] = way;
                    shrunk = true;
                }
            }
            return shrunk;
        }

        /** Shortens ways by what always holds and is no limit: a motif's order, and 0 to the last time. */
        private void followBounds(int lowest) {
            for (int begin = FIRST_MOTIF_POINT; begin < POINTS - 1; begin += 2) {
                ways[begin] = Math.min(ways[begin], ways[begin + 1]);
            }
            if (lowest == ORIGIN) {
                followRange();
            }
        }

        private void followRange() {
            int least = ways[ORIGIN];
            for (int point = 0; point < POINTS; point++) {
                least = Math.min(least, ways[point]);
            }
            ways[ORIGIN] = least;
            for (int point = 0; point < POINTS; point++) {
                ways[point] = Math.min(ways[point], least + LAST_TIME);
            }
        }
    }

    /**
     * The edges of the plates. A plate is an arrow from its left edge to its right one, so a row
     * is a way that uses each arrow once (Euler): counting edges and seeing what hangs together is enough.
     */
    private static final class EdgeTable {
        private final int[] lefts = new int[MOST_PLATES];
        private final int[] rights = new int[MOST_PLATES];
        // Sets of plates, one for each plate.
        private final int[] likeLeft = new int[MOST_PLATES];
        private final int[] leftOf = new int[MOST_PLATES];
        private final int[] rightOf = new int[MOST_PLATES];

        EdgeTable() {
            for (int plate = 0; plate < MOST_PLATES; plate++) {
                compare(plate);
            }
        }

        void setEdges(int plate, int left, int right) {
            if (plate < 0 || plate >= MOST_PLATES) {
                return;
            }
            lefts[plate] = left;
            rights[plate] = right;
            for (int other = 0; other < MOST_PLATES; other++) {
                compare(other);
            }
        }

        private void compare(int plate) {
            likeLeft[plate] = 1 << plate;
            leftOf[plate] = 0;
            rightOf[plate] = 0;
            for (int other = 0; other < MOST_PLATES; other++) {
                int bit = 1 << other;
                if (fits(lefts[plate], lefts[other])) {
                    likeLeft[plate] |= bit;
                }
                if (fits(lefts[plate], rights[other])) {
                    leftOf[plate] |= bit;
                }
                if (fits(rights[plate], lefts[other])) {
                    rightOf[plate] |= bit;
                }
            }
        }

        private static boolean fits(int edge, int other) {
            return edge != 0 && edge == other;
        }

        private static boolean holds(int set, int plate) {
            return (set & (1 << plate)) != 0;
        }

        /** How many plates of a set with this one's left edge have no plate for the place left of them. */
        private int missingLeftOf(int plate, int set) {
            return Math.max(0, Integer.bitCount(likeLeft[plate] & set) - Integer.bitCount(leftOf[plate] & set));
        }

        /** How many plates of a set must be the first of a row, however they are put. */
        int startsIn(int set) {
            int starts = 0;
            for (int plate = 0; plate < MOST_PLATES; plate++) {
                int lesser = (1 << plate) - 1;
                if (holds(set, plate) && (likeLeft[plate] & set & lesser) == 0) {
                    starts += missingLeftOf(plate, set);
                }
            }
            return starts;
        }

        /** The plates of a set that hang together with its least one: no row goes beyond such a part. */
        private int partOf(int set) {
            int part = set & -set;
            for (int round = 0; round < MOST_PLATES; round++) {
                int grown = part;
                for (int plate = 0; plate < MOST_PLATES; plate++) {
                    if (holds(grown, plate)) {
                        grown |= (leftOf[plate] | rightOf[plate]) & set;
                    }
                }
                if (grown == part) {
                    return part;
                }
                part = grown;
            }
            return part;
        }

        int fewestRows(int set) {
            int rest = set;
            int count = 0;
            for (int round = 0; round < MOST_PLATES && rest != 0; round++) {
                int part = partOf(rest);
                // What has no start closes to a ring, which is one row as well.
                count += Math.max(1, startsIn(part));
                rest &= ~part;
            }
            return count;
        }

        /** Writes the first row of a set that has one; answers its length. */
        int writeFirstRow(int set, int[] target) {
            int rest = set;
            int open = firstPlaces(set);
            int length = 0;
            while (length < target.length && rest != 0) {
                int plate = leastThatGoesOn(open & rest, rest);
                if (plate == NONE) {
                    return length;
                }
                target[length] = plate;
                length++;
                rest &= ~(1 << plate);
                open = rightOf[plate];
            }
            return length;
        }

        /** The plates of a set that a row of all of them can begin with, as far as counting edges tells. */
        private int firstPlaces(int set) {
            if (startsIn(set) == 0) {
                return set;
            }
            int places = 0;
            for (int plate = 0; plate < MOST_PLATES; plate++) {
                if (holds(set, plate) && missingLeftOf(plate, set) > 0) {
                    places |= 1 << plate;
                }
            }
            return places;
        }

        private int leastThatGoesOn(int open, int rest) {
            for (int plate = 0; plate < MOST_PLATES; plate++) {
                if (holds(open, plate) && goesOn(plate, rest & ~(1 << plate))) {
                    return plate;
                }
            }
            return NONE;
        }

        /** Whether all the others can follow a plate: the counts stay right, so only a torn rest can forbid it. */
        private boolean goesOn(int plate, int others) {
            return others == 0 || ((rightOf[plate] & others) != 0 && partOf(others) == others);
        }
    }

    /** What is copied, in what order. */
    private static final class CopyPlan {
        private final int[] wanted = new int[MOST_PLATES];
        private final int[] hours = new int[MOST_PLATES];
        private final int[] lost = new int[MOST_PLATES];
        private final int[] turns = new int[MOST_PLATES];
        // The greatest worth of plates that take just so many hours together; NONE, if none do.
        private final long[] worths = new long[LAST_HOUR + 1];
        private long bestWorth;

        CopyPlan() {
            Arrays.fill(hours, 1);
            Arrays.fill(lost, LAST_HOUR);
        }

        void setWish(int plate, int wish, int length, int end) {
            if (plate < 0 || plate >= MOST_PLATES) {
                return;
            }
            wanted[plate] = wish;
            hours[plate] = length;
            lost[plate] = end;
        }

        /** Finds BEST of the first `plates` plates: in the order of their loss, if any order will do. */
        void choose(int plates) {
            int count = Math.min(plates, MOST_PLATES);
            sortTurns(count);
            Arrays.fill(worths, NONE);
            worths[0] = 0;
            int together = 0;
            for (int turn = 0; turn < count; turn++) {
                int plate = turns[turn];
                together += hours[plate];
                offer(plate, Math.min(together, lost[plate]));
            }
            bestWorth = 0;
            for (int end = 0; end <= LAST_HOUR; end++) {
                bestWorth = Math.max(bestWorth, worths[end]);
            }
        }

        private void offer(int plate, int latest) {
            for (int end = Math.min(latest, LAST_HOUR); end >= hours[plate]; end--) {
                long without = worths[end - hours[plate]];
                if (without != NONE) {
                    worths[end] = Math.max(worths[end], without + worthOf(plate));
                }
            }
        }

        /** How wanted, and below that a bit for each plate, the least number's on top: it settles what is equal. */
        private long worthOf(int plate) {
            return ((long) wanted[plate] << MOST_PLATES) + bitOf(plate);
        }

        private static long bitOf(int plate) {
            return 1L << (MOST_PLATES - 1 - plate);
        }

        private void sortTurns(int count) {
            for (int plate = 0; plate < count; plate++) {
                int at = plate;
                while (at > 0 && lost[turns[at - 1]] > lost[plate]) {
                    turns[at] = turns[at - 1];
                    at--;
                }
                turns[at] = plate;
            }
        }

        int wantedTogether() {
            return (int) (bestWorth >> MOST_PLATES);
        }

        boolean isChosen(int plate) {
            return plate >= 0 && plate < MOST_PLATES && (bestWorth & bitOf(plate)) != 0;
        }

        int beginningOf(int plate, int plates) {
            int hour = 0;
            for (int turn = 0; turn < plates && turn < MOST_PLATES; turn++) {
                int other = turns[turn];
                if (other == plate) {
                    return hour;
                }
                if (isChosen(other)) {
                    hour += hours[other];
                }
            }
            return hour;
        }
    }

    /** Laws and deaths as they were told. */
    private static final class RightsBook {
        private final int[] lawStarts = new int[MOST_LAWS];
        private final int[] lawDays = new int[MOST_LAWS];
        private final int[] deathPlates = new int[MOST_DEATHS];
        private final int[] deathDays = new int[MOST_DEATHS];
        private final int[] deathsToldOn = new int[MOST_DEATHS];
        private int lawCount;
        private int deathCount;

        boolean hasAllLaws() {
            return lawCount >= MOST_LAWS;
        }

        boolean hasAllDeaths() {
            return deathCount >= MOST_DEATHS;
        }

        void addLaw(int from, int days) {
            if (hasAllLaws()) {
                return;
            }
            lawStarts[lawCount] = from;
            lawDays[lawCount] = days;
            lawCount++;
        }

        void addDeath(int plate, int day, int told) {
            if (hasAllDeaths()) {
                return;
            }
            deathPlates[deathCount] = plate;
            deathDays[deathCount] = day;
            deathsToldOn[deathCount] = told;
            deathCount++;
        }

        boolean isFreeOn(int plate, int day, int known) {
            int inForce = lawInForce(day);
            int death = deathKnown(plate, known);
            if (inForce == NONE || death == NONE) {
                return false;
            }
            return deathDays[death] + lawDays[inForce] <= day;
        }

        private int lawInForce(int day) {
            int found = NONE;
            for (int k = 0; k < lawCount; k++) {
                if (lawStarts[k] <= day && (found == NONE || lawStarts[k] >= lawStarts[found])) {
                    found = k;
                }
            }
            return found;
        }

        private int deathKnown(int plate, int known) {
            int found = NONE;
            for (int k = 0; k < deathCount; k++) {
                boolean counts = deathPlates[k] == plate && deathsToldOn[k] <= known;
                if (counts && (found == NONE || deathsToldOn[k] >= deathsToldOn[found])) {
                    found = k;
                }
            }
            return found;
        }
    }
}
