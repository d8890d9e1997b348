/** Promise 1, and what each call answers while there is no coast. */
public final class NewObjectTest {
    public static void main(String[] args) {
        Checks checks = new Checks("NewObjectTest");
        theConstants(checks);
        noCoastAtFirst(checks);
        allRefuseWithoutCoast(checks);
        objectsStandAlone(checks);
        checks.end();
    }

    private static void theConstants(Checks checks) {
        checks.due("NONE", RiversQueue.NONE, -1);
        checks.due("UNKNOWN", RiversQueue.UNKNOWN, -101);
        checks.due("OUTSIDE", RiversQueue.OUTSIDE, -102);
        checks.due("STATE", RiversQueue.STATE, -103);
        checks.due("FULL", RiversQueue.FULL, -104);
    }

    private static void noCoastAtFirst(Checks checks) {
        RiversQueue x = new RiversQueue();
        for (int what = 0; what <= 8; what++) {
            checks.due("new: count(" + what + ")", x.count(what), 0);
        }
        checks.due("new: fault()", x.fault(), 0);
        checks.due("new: blank()", x.blank(), 0);
        checks.due("new: forget()", x.forget(), 0);
        long h = 971;
        for (int i = 0; i < 9; i++) {
            h = 31 * h;
        }
        checks.due("new: digest()", x.digest(), h);
    }

    private static void allRefuseWithoutCoast(Checks checks) {
        RiversQueue x = new RiversQueue();
        long h = x.digest();
        checks.dueUnchanged("coast()", x, x.coast(), Checks.STATE, h);
        checks.dueUnchanged("hour()", x, x.hour(), Checks.STATE, h);
        checks.dueUnchanged("image()", x, x.image(), Checks.STATE, h);
        checks.dueUnchanged("restore()", x, x.restore(), Checks.STATE, h);
        checks.dueUnchanged("wide(1, 0)", x, x.wide(1, 0), Checks.STATE, h);
        checks.dueUnchanged("wide(0, 0)", x, x.wide(0, 0), Checks.OUTSIDE, h);
        checks.dueUnchanged("best(0)", x, x.best(0), Checks.STATE, h);
        checks.dueUnchanged("best(14)", x, x.best(14), Checks.STATE, h);
        checks.dueUnchanged("best(1)", x, x.best(1), Checks.OUTSIDE, h);
        checks.dueUnchanged("seasons(1, 0, 0)", x, x.seasons(1, 0, 0), Checks.STATE, h);
        checks.dueUnchanged("seasons(1, 0, 3)", x, x.seasons(1, 0, 3), Checks.OUTSIDE, h);
        checks.dueUnchanged("see(1, 0, true)", x, x.see(1, 0, true), Checks.UNKNOWN, h);
        checks.dueUnchanged("see(0, 0, true)", x, x.see(0, 0, true), Checks.OUTSIDE, h);
        for (int number = -1; number <= 5; number++) {
            checks.dueUnchanged("river(n, 9)", x, x.river(number, 9), Checks.UNKNOWN, h);
            checks.dueUnchanged("as(n, 9)", x, x.as(number, 9), Checks.UNKNOWN, h);
            checks.dueUnchanged("row(n)", x, x.row(number), Checks.UNKNOWN, h);
            checks.dueUnchanged("rain(n, 0)", x, x.rain(number, 0), Checks.UNKNOWN, h);
            checks.dueUnchanged("drought(n)", x, x.drought(number), Checks.UNKNOWN, h);
        }
    }

    private static void objectsStandAlone(Checks checks) {
        RiversQueue one = Checks.coastOf("r10,f20;1");
        RiversQueue other = new RiversQueue();
        one.hour();
        checks.due("another object: count(0)", other.count(0), 0);
        checks.due("another object: hour()", other.hour(), Checks.STATE);
    }
}
