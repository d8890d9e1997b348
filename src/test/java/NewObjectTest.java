import java.util.function.ToIntFunction;

/** Promise 1, and what each call answers while there is no coast. */
public final class NewObjectTest {
    public static void main(String[] args) {
        Checks checks = new Checks("NewObjectTest");
        theConstants(checks);
        noCoastAtFirst(checks);
        noRiversAtFirst(checks);
        callsThatNeedACoast(checks);
        callsThatNeedNone(checks);
        objectsStandAlone(checks);
        checks.end();
    }

    private static void theConstants(Checks checks) {
        checks.due("NONE", RiversQueue.NONE, -1);
        checks.due("UNKNOWN", RiversQueue.UNKNOWN, -101);
        checks.due("OUTSIDE", RiversQueue.OUTSIDE, -102);
        checks.due("STATE", RiversQueue.STATE, -103);
        checks.due("FULL", RiversQueue.FULL, -104);
    }

    private static void noCoastAtFirst(Checks checks) {
        RiversQueue x = new RiversQueue();
        for (int what = 0; what <= 8; what++) {
            checks.due("new: count(" + what + ")", x.count(what), 0);
        }
        long h = 971;
        for (int i = 0; i < 9; i++) {
            h = 31 * h;
        }
        checks.due("new: digest()", x.digest(), h);
    }

    private static void dueRefused(Checks checks, String call, ToIntFunction<RiversQueue> asked, int want) {
        checks.dueRefused(call, Scene.WITHOUT_COAST, asked, want);
    }

    /** "At first there is none": no number names one, and that is told ahead of all else. */
    private static void noRiversAtFirst(Checks checks) {
        for (int number : new int[] {-1, 0, 1, 4, 5}) {
            dueRefused(checks, "river(n, 0)", x -> x.river(number, 0), Checks.UNKNOWN);
            dueRefused(checks, "river(n, 8)", x -> x.river(number, 8), Checks.UNKNOWN);
            dueRefused(checks, "as(n, 0)", x -> x.as(number, 0), Checks.UNKNOWN);
            dueRefused(checks, "as(n, 5)", x -> x.as(number, 5), Checks.UNKNOWN);
            dueRefused(checks, "row(n)", x -> x.row(number), Checks.UNKNOWN);
            dueRefused(checks, "rain(n, 1)", x -> x.rain(number, 1), Checks.UNKNOWN);
            dueRefused(checks, "rain(n, 0)", x -> x.rain(number, 0), Checks.UNKNOWN);
            dueRefused(checks, "drought(n)", x -> x.drought(number), Checks.UNKNOWN);
            dueRefused(checks, "see(1, n, true)", x -> x.see(1, number, true), Checks.UNKNOWN);
        }
    }

    /** "STATE: no COAST", but behind OUTSIDE, where that is told ahead of it. */
    private static void callsThatNeedACoast(Checks checks) {
        dueRefused(checks, "coast()", x -> x.coast(), Checks.STATE);
        dueRefused(checks, "hour()", x -> x.hour(), Checks.STATE);
        dueRefused(checks, "image()", x -> x.image(), Checks.STATE);
        dueRefused(checks, "restore()", x -> x.restore(), Checks.STATE);
        dueRefused(checks, "wide(1, 0)", x -> x.wide(1, 0), Checks.STATE);
        dueRefused(checks, "wide(60, 1)", x -> x.wide(60, 1), Checks.STATE);
        dueRefused(checks, "best(0)", x -> x.best(0), Checks.STATE);
        dueRefused(checks, "best(14)", x -> x.best(14), Checks.STATE);
        dueRefused(checks, "seasons(1, 0, 0)", x -> x.seasons(1, 0, 0), Checks.STATE);
        dueRefused(checks, "seasons(60, 2147483647, 2)", x -> x.seasons(60, Integer.MAX_VALUE, 2), Checks.STATE);
        dueRefused(checks, "wide(0, 0)", x -> x.wide(0, 0), Checks.OUTSIDE);
        dueRefused(checks, "best(1)", x -> x.best(1), Checks.OUTSIDE);
        dueRefused(checks, "seasons(1, 0, 3)", x -> x.seasons(1, 0, 3), Checks.OUTSIDE);
        dueRefused(checks, "see(0, 0, true)", x -> x.see(0, 0, true), Checks.OUTSIDE);
    }

    private static void callsThatNeedNone(Checks checks) {
        RiversQueue x = new RiversQueue();
        checks.due("new: fault()", x.fault(), 0);
        checks.due("new: blank()", x.blank(), 0);
        checks.due("new: forget()", x.forget(), 0);
        checks.due("new: letter(1)", x.letter(1), 1);
        checks.due("new: count(6)", x.count(6), 1);
    }

    private static void objectsStandAlone(Checks checks) {
        RiversQueue one = Checks.coastOf("r10,f20;1");
        RiversQueue other = new RiversQueue();
        one.hour();
        one.image();
        one.letter('r');
        Told.by(other).dueAs(checks, "another object", Told.by(new RiversQueue()));
        checks.due("another object: restore()", other.restore(), Checks.STATE);
    }
}
