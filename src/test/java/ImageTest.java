/** Promises 17 and 18: image, restore. */
public final class ImageTest {
    private static final String TEXT = "r31,f82,t11,o21;2";

    public static void main(String[] args) {
        Checks checks = new Checks("ImageTest");
        allIsRestored(checks);
        theLatestIsKept(checks);
        whatCountsOn(checks);
        restoreRefuses(checks);
        checks.end();
    }

    private static RiversQueue twoHoursOn() {
        RiversQueue x = Checks.coastOf(TEXT);
        x.hour();
        x.hour();
        x.see(2, 1, true);
        x.see(3, 0, false);
        return x;
    }

    private static void allIsRestored(Checks checks) {
        RiversQueue x = twoHoursOn();
        long h = x.digest();
        checks.due("image()", x.image(), 2);
        checks.due("image() changes nothing", x.digest(), h);
        for (int times = 0; times < 3; times++) {
            x.hour();
            x.rain(1, 20);
            x.drought(2);
            x.forget();
            x.see(1, 3, false);
            checks.due("it went on", x.digest() != h);
            checks.due("restore()", x.restore(), 2);
            checks.due("all is as it was", x.digest(), h);
            checks.due("what is seen, too", x.count(5), 2);
        }
        x.forget();
        x.restore();
        checks.due("what is seen, as it was", x.river(1, 6), twoHoursOn().river(1, 6));
        checks.due("it goes on alike", x.hour() == twoHoursOn().hour() && x.count(3) == 3);
    }

    private static void theLatestIsKept(Checks checks) {
        RiversQueue x = Checks.coastOf(TEXT);
        checks.due("image() at first", x.image(), 0);
        x.hour();
        checks.due("image() an hour on", x.image(), 1);
        x.hour();
        checks.due("restore() of the latest", x.restore(), 1);
        checks.due("count(3)", x.count(3), 1);
        checks.due("restore() again", x.restore(), 1);
    }

    private static void whatCountsOn(Checks checks) {
        RiversQueue x = twoHoursOn();
        x.image();
        x.best(0);
        x.letter('r');
        x.restore();
        checks.due("count(8) counts on", x.count(8), 1);
        checks.due("count(7) counts on", x.count(7), 1);
        checks.due("the page stands", x.count(6), 1);
    }

    private static void restoreRefuses(Checks checks) {
        RiversQueue x = twoHoursOn();
        long h = x.digest();
        checks.dueUnchanged("restore() of none", x, x.restore(), Checks.STATE, h);
        x.image();
        Checks.write(x, TEXT);
        x.coast();
        h = x.digest();
        checks.dueUnchanged("restore() of another coast", x, x.restore(), Checks.STATE, h);
        checks.due("image() of this coast", x.image(), 0);
        x.hour();
        checks.due("restore() of this coast", x.restore(), 0);
    }
}
