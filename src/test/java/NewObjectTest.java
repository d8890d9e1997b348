/** Promise 1, and what each call answers while there is no coast. */
public final class NewObjectTest {
    public static void main(String[] args) {
        Checks checks = new Checks("NewObjectTest");
        theConstants(checks);
        noCoastAtFirst(checks);
        noRiversAtFirst(checks);
        callsThatNeedACoast(checks);
        callsThatNeedNone(checks);
        objectsStandAlone(checks);
        checks.end();
    }

    private static void theConstants(Checks checks) {
        checks.due("NONE", RiversQueue.NONE, -1);
        checks.due("UNKNOWN", RiversQueue.UNKNOWN, -101);
        checks.due("OUTSIDE", RiversQueue.OUTSIDE, -102);
        checks.due("STATE", RiversQueue.STATE, -103);
        checks.due("FULL", RiversQueue.FULL, -104);
    }

    private static void noCoastAtFirst(Checks checks) {
        RiversQueue x = new RiversQueue();
        for (int what = 0; what <= 8; what++) {
            checks.due("new: count(" + what + ")", x.count(what), 0);
        }
        long h = 971;
        for (int i = 0; i < 9; i++) {
            h = 31 * h;
        }
        checks.due("new: digest()", x.digest(), h);
    }

    /** "At first there is none": no number names one, and that is told ahead of all else. */
    private static void noRiversAtFirst(Checks checks) {
        for (int number : new int[] {-1, 0, 1, 4, 5}) {
            checks.dueRefused("new: river(n, 0)", Scene.NEW, x -> x.river(number, 0), Checks.UNKNOWN);
            checks.dueRefused("new: river(n, 8)", Scene.NEW, x -> x.river(number, 8), Checks.UNKNOWN);
            checks.dueRefused("new: as(n, 0)", Scene.NEW, x -> x.as(number, 0), Checks.UNKNOWN);
            checks.dueRefused("new: as(n, 5)", Scene.NEW, x -> x.as(number, 5), Checks.UNKNOWN);
            checks.dueRefused("new: row(n)", Scene.NEW, x -> x.row(number), Checks.UNKNOWN);
            checks.dueRefused("new: rain(n, 1)", Scene.NEW, x -> x.rain(number, 1), Checks.UNKNOWN);
            checks.dueRefused("new: rain(n, 0)", Scene.NEW, x -> x.rain(number, 0), Checks.UNKNOWN);
            checks.dueRefused("new: drought(n)", Scene.NEW, x -> x.drought(number), Checks.UNKNOWN);
            checks.dueRefused("new: see(1, n, true)", Scene.NEW, x -> x.see(1, number, true), Checks.UNKNOWN);
        }
    }

    /** "STATE: no COAST", but behind OUTSIDE, where that is told ahead of it. */
    private static void callsThatNeedACoast(Checks checks) {
        checks.dueRefused("new: coast()", Scene.NEW, x -> x.coast(), Checks.STATE);
        checks.dueRefused("new: hour()", Scene.NEW, x -> x.hour(), Checks.STATE);
        checks.dueRefused("new: image()", Scene.NEW, x -> x.image(), Checks.STATE);
        checks.dueRefused("new: restore()", Scene.NEW, x -> x.restore(), Checks.STATE);
        checks.dueRefused("new: wide(1, 0)", Scene.NEW, x -> x.wide(1, 0), Checks.STATE);
        checks.dueRefused("new: wide(60, 1)", Scene.NEW, x -> x.wide(60, 1), Checks.STATE);
        checks.dueRefused("new: best(0)", Scene.NEW, x -> x.best(0), Checks.STATE);
        checks.dueRefused("new: best(14)", Scene.NEW, x -> x.best(14), Checks.STATE);
        checks.dueRefused("new: seasons(1, 0, 0)", Scene.NEW, x -> x.seasons(1, 0, 0), Checks.STATE);
        checks.dueRefused("new: seasons(60, 2147483647, 2)", Scene.NEW, x -> x.seasons(60, Integer.MAX_VALUE, 2),
            Checks.STATE);
        checks.dueRefused("new: wide(0, 0)", Scene.NEW, x -> x.wide(0, 0), Checks.OUTSIDE);
        checks.dueRefused("new: best(1)", Scene.NEW, x -> x.best(1), Checks.OUTSIDE);
        checks.dueRefused("new: seasons(1, 0, 3)", Scene.NEW, x -> x.seasons(1, 0, 3), Checks.OUTSIDE);
        checks.dueRefused("new: see(0, 0, true)", Scene.NEW, x -> x.see(0, 0, true), Checks.OUTSIDE);
    }

    private static void callsThatNeedNone(Checks checks) {
        RiversQueue x = new RiversQueue();
        checks.due("new: fault()", x.fault(), 0);
        checks.due("new: blank()", x.blank(), 0);
        checks.due("new: forget()", x.forget(), 0);
        checks.due("new: letter(1)", x.letter(1), 1);
        checks.due("new: count(6)", x.count(6), 1);
    }

    private static void objectsStandAlone(Checks checks) {
        RiversQueue one = Checks.coastOf("r10,f20;1");
        RiversQueue other = new RiversQueue();
        one.hour();
        one.image();
        one.letter('r');
        Told.by(other).dueAs(checks, "another object", Told.by(new RiversQueue()));
        checks.due("another object: restore()", other.restore(), Checks.STATE);
    }
}
