import java.util.ArrayList;
import java.util.List;
import java.util.function.Consumer;
import java.util.function.Function;

/**
 * A refused call changes nothing but STATUS. Two rooms are made alike, one of them has the refused
 * call, and both are asked for all that can be asked.
 */
final class Twins {
    /** An object is good for 512 calls: the making takes up to 230, each question and its status two. */
    private static final int MOST_ASKED = 130;
    private static final int[] DAYS = {0, 99, 100, 9999};
    private static final int[] SHOWING_DAYS = {
        0, 1000, 1999, 2000, 3000, 4000, 5000, 6000, 7000, 8000, 9000, 100000, 150000, 200000};
    private static final int[] KNOWING_DAYS = {0, 20, 9999};

    private record Question(String text, boolean hasStatus, Function<PlateRoom, Object> asking) {
    }

    private Twins() {
    }

    /** The call gives NONE, or false, and this status, and leaves all else as it was. */
    static void refused(String name, int status, Consumer<PlateRoom> making, Function<PlateRoom, Object> call) {
        for (List<Question> some : questions(made(making))) {
            PlateRoom with = made(making);
            PlateRoom without = made(making);
            dueRefusal(name, with, call.apply(with), status);
            for (Question question : some) {
                compare(name, question, with, without);
            }
        }
    }

    private static PlateRoom made(Consumer<PlateRoom> making) {
        PlateRoom room = new PlateRoom();
        making.accept(room);
        return room;
    }

    private static void dueRefusal(String name, PlateRoom room, Object got, int status) {
        if (got instanceof Boolean flag) {
            Check.refused(room, name, flag.booleanValue(), status);
        } else {
            Check.refused(room, name, ((Integer) got).intValue(), status);
        }
    }

    private static void compare(String name, Question question, PlateRoom with, PlateRoom without) {
        String text = question.text() + " behind the refused " + name;
        Object got = question.asking().apply(with);
        Object want = question.asking().apply(without);
        Check.due(text, numberOf(got), numberOf(want));
        if (question.hasStatus()) {
            Check.due(text + ", status", with.status(), without.status());
        }
    }

    static int numberOf(Object answer) {
        if (answer instanceof Boolean flag) {
            return flag ? 1 : 0;
        }
        return (Integer) answer;
    }

    private static List<List<Question>> questions(PlateRoom room) {
        int plates = countOf(room, 20, k -> room.span(k, false, 0));
        int motifs = countOf(room, 16, k -> room.times(k, false, false, 0));
        int facts = countOf(room, 100, k -> room.fact(k, 0));
        List<Question> all = new ArrayList<>();
        askOut(all);
        askTimes(all, plates, motifs);
        askFacts(all, facts);
        askEdges(all, plates);
        askCopiesAndRights(all, plates);
        List<List<Question>> parts = new ArrayList<>();
        for (int from = 0; from < all.size(); from += MOST_ASKED) {
            parts.add(all.subList(from, Math.min(all.size(), from + MOST_ASKED)));
        }
        parts.add(placesForPlates());
        parts.add(placesForFacts(facts));
        parts.add(placesForRights());
        return parts;
    }

    private static int countOf(PlateRoom room, int most, Function<Integer, Object> asking) {
        for (int k = 0; k < most; k++) {
            asking.apply(k);
            if (room.status() == 1) {
                return k;
            }
        }
        return most;
    }

    private static void ask(List<Question> all, String text, Function<PlateRoom, Object> asking) {
        all.add(new Question(text, true, asking));
    }

    private static void askOut(List<Question> all) {
        for (int k = -1; k <= 20; k++) {
            int at = k;
            all.add(new Question("out(" + k + ")", false, room -> room.out(at)));
        }
    }

    private static void askTimes(List<Question> all, int plates, int motifs) {
        for (int day : DAYS) {
            for (int k = 0; k <= plates; k++) {
                int plate = k;
                ask(all, "span(" + k + ", false, " + day + ")", room -> room.span(plate, false, day));
                ask(all, "span(" + k + ", true, " + day + ")", room -> room.span(plate, true, day));
            }
            for (int k = 0; k <= motifs; k++) {
                int motif = k;
                ask(all, "times(" + k + ", false, false, " + day + ")", room -> room.times(motif, false, false, day));
                ask(all, "times(" + k + ", false, true, " + day + ")", room -> room.times(motif, false, true, day));
                ask(all, "times(" + k + ", true, false, " + day + ")", room -> room.times(motif, true, false, day));
                ask(all, "times(" + k + ", true, true, " + day + ")", room -> room.times(motif, true, true, day));
            }
            ask(all, "quarrel(" + day + ")", room -> room.quarrel(day));
            ask(all, "order(0, 1, " + day + ")", room -> room.order(0, 1, day));
            ask(all, "order(1, 0, " + day + ")", room -> room.order(1, 0, day));
        }
    }

    private static void askFacts(List<Question> all, int facts) {
        for (int k = 0; k <= facts; k++) {
            int number = k;
            for (int w = 0; w < 4; w++) {
                int what = w;
                ask(all, "fact(" + k + ", " + w + ")", room -> room.fact(number, what));
            }
            ask(all, "frees(" + k + ", 9999)", room -> room.frees(number, 9999));
        }
    }

    private static void askEdges(List<Question> all, int plates) {
        for (int k = 0; k <= plates; k++) {
            int set = 1 << k;
            ask(all, "ring(" + set + ")", room -> room.ring(set));
            for (int other = 0; other < k; other++) {
                int both = set | 1 << other;
                ask(all, "rows(" + both + ")", room -> room.rows(both));
            }
        }
    }

    private static void askCopiesAndRights(List<Question> all, int plates) {
        ask(all, "best()", room -> room.best());
        for (int k = 0; k <= plates; k++) {
            int plate = k;
            ask(all, "hour(" + k + ")", room -> room.hour(plate));
            for (int day : SHOWING_DAYS) {
                for (int known : KNOWING_DAYS) {
                    ask(all, "free(" + k + ", " + day + ", " + known + ")", room -> room.free(plate, day, known));
                }
            }
        }
    }

    /** One call more than there can be places left, so that a place that was lost or won is seen. */
    private static List<Question> placesForPlates() {
        List<Question> some = new ArrayList<>();
        for (int k = 0; k <= 20; k++) {
            ask(some, "plate()", room -> room.plate());
        }
        for (int k = 0; k <= 16; k++) {
            ask(some, "motif()", room -> room.motif());
        }
        return some;
    }

    private static List<Question> placesForFacts(int facts) {
        List<Question> some = new ArrayList<>();
        for (int k = facts; k <= 100; k++) {
            ask(some, "taken(0, 0, 100000, 0)", room -> room.taken(0, 0, 100000, 0));
        }
        return some;
    }

    private static List<Question> placesForRights() {
        List<Question> some = new ArrayList<>();
        for (int k = 0; k <= 10; k++) {
            ask(some, "law(0, 0)", room -> room.law(0, 0));
        }
        for (int k = 0; k <= 60; k++) {
            ask(some, "death(0, 0, 0)", room -> room.death(0, 0, 0));
        }
        return some;
    }
}
