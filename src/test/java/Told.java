import java.util.ArrayList;
import java.util.List;

/** All that an object tells of itself, number by number, each with the call that told it. */
final class Told {
    private static final int MOST_RIVERS = 5;
    private static final int LAST_RIVER_TELL = 7;
    private static final int LAST_COUNT = 8;

    private final List<String> calls = new ArrayList<>();
    private final List<Long> answers = new ArrayList<>();

    private Told() {
    }

    /** Takes 56 calls of the 512 that an object has. */
    static Told by(RiversQueue x) {
        Told told = new Told();
        for (int what = 0; what <= LAST_COUNT; what++) {
            told.add("count(" + what + ")", x.count(what));
        }
        for (int river = 0; river < MOST_RIVERS; river++) {
            for (int what = 0; what <= LAST_RIVER_TELL; what++) {
                told.add("river(" + river + ", " + what + ")", x.river(river, what));
            }
        }
        for (int place = 0; place < MOST_RIVERS; place++) {
            told.add("row(" + place + ")", x.row(place));
        }
        told.add("fault()", x.fault());
        told.add("digest()", x.digest());
        return told;
    }

    private void add(String call, long answer) {
        calls.add(call);
        answers.add(answer);
    }

    /** Each of these numbers is to be what it was. */
    void dueAs(Checks checks, String when, Told before) {
        for (int i = 0; i < calls.size(); i++) {
            checks.due(when + ", " + calls.get(i), answers.get(i), before.answers.get(i));
        }
    }
}
