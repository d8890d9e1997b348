/** Counts the answers that are not due, and ends the test with exit code 1 if there was one. */
final class Checks {
    static final int NONE = -1, UNKNOWN = -101, OUTSIDE = -102, STATE = -103, FULL = -104;
    /** Numbers that name nothing, whatever is asked. */
    static final int[] WILD = {Integer.MIN_VALUE, -101, -2, -1, 127, 65536, Integer.MAX_VALUE};

    private final String test;
    private int done;
    private int wrong;

    Checks(String test) {
        this.test = test;
    }

    void due(String call, long got, long want) {
        done++;
        if (got != want) {
            wrong++;
            System.out.println(test + ": " + call + " answered " + got + ", due is " + want);
        }
    }

    void due(String call, boolean holds) {
        due(call, holds ? 1 : 0, 1);
    }

    void dueRow(String call, RiversQueue x, int... rivers) {
        for (int place = 0; place < rivers.length; place++) {
            due(call + ", row(" + place + ")", x.row(place), rivers[place]);
            due(call + ", place of " + rivers[place], x.river(rivers[place], 3), place);
        }
        due(call + ", row(" + rivers.length + ")", x.row(rivers.length), UNKNOWN);
    }

    /** A refused call changes nothing: the digest tells nearly all there is. */
    void dueUnchanged(String call, RiversQueue x, long got, long want, long digestBefore) {
        due(call, got, want);
        due("digest() after " + call, x.digest(), digestBefore);
    }

    void end() {
        if (wrong > 0) {
            System.out.println(test + ": " + wrong + " of " + done + " answers are not as due");
            System.exit(1);
        }
    }

    static void write(RiversQueue x, String text) {
        for (int i = 0; i < text.length(); i++) {
            x.letter(text.charAt(i));
        }
    }

    static RiversQueue coastOf(String text) {
        RiversQueue x = new RiversQueue();
        write(x, text);
        if (x.coast() < 0) {
            throw new IllegalArgumentException("no coast: " + text);
        }
        return x;
    }
}
