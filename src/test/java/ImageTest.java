/** Promises 17 and 18: image, restore. */
public final class ImageTest {
    private static final String TEXT = "r31,f82,t11,o21;2";

    public static void main(String[] args) {
        Checks checks = new Checks("ImageTest");
        allIsRestored(checks);
        eachThatItKeeps(checks);
        itIsNotWhatStandsNow(checks);
        asReadIsKept(checks);
        sixSeenAreKept(checks);
        theLatestIsKept(checks);
        whatCountsOn(checks);
        theScenesHaveImages(checks);
        imageRefuses(checks);
        noneWasKept(checks);
        anotherCoastSince(checks);
        checks.end();
    }

    private static RiversQueue twoHoursOn() {
        RiversQueue x = Checks.coastOf(TEXT);
        x.hour();
        x.hour();
        x.see(2, 1, true);
        x.see(3, 0, false);
        return x;
    }

    private static void allIsRestored(Checks checks) {
        RiversQueue x = twoHoursOn();
        Told before = Told.by(x);
        checks.due("image()", x.image(), 2);
        Told.by(x).dueAs(checks, "image() changes nothing", before);
        for (int times = 0; times < 3; times++) {
            x.hour();
            x.rain(1, 20);
            x.drought(2);
            x.forget();
            x.see(1, 3, false);
            checks.due("it went on", x.count(3), 3);
            checks.due("restore()", x.restore(), 2);
            Told.by(x).dueAs(checks, "restored", before);
        }
        checks.due("it goes on alike", x.hour(), twoHoursOn().hour());
        checks.due("it goes on", x.count(3), 3);
    }

    /** "WATER, the ROW, HOURS, how much the SEA took, SEEN": each changed alone, or nearly so. */
    private static void eachThatItKeeps(Checks checks) {
        RiversQueue x = twoHoursOn();
        RiversQueue twin = twoHoursOn();
        x.image();
        x.rain(0, 50);
        x.restore();
        checks.due("WATER", x.river(0, 1), twin.river(0, 1));
        checks.due("WATER in all", x.count(2), twin.count(2));
        x.drought(x.row(0));
        x.restore();
        for (int place = 0; place < 4; place++) {
            checks.due("the ROW", x.row(place), twin.row(place));
        }
        x.hour();
        x.restore();
        checks.due("HOURS", x.count(3), 2);
        for (int river = 0; river < 4; river++) {
            checks.due("how much the SEA took", x.river(river, 4), twin.river(river, 4));
        }
        checks.due("how much of all", x.count(4), twin.count(4));
        x.see(1, 0, true);
        x.see(1, 0, false);
        x.restore();
        checks.due("SEEN", x.count(5), 2);
        checks.due("what is SEEN", x.river(0, 6), twin.river(0, 6));
        x.forget();
        x.see(12, 3, false);
        x.see(12, 3, false);
        x.restore();
        checks.due("what was SEEN, as it was", x.river(0, 6), twin.river(0, 6));
        checks.due("taken, and not taken, in their hours", x.river(1, 6), twin.river(1, 6));
    }

    private static void itIsNotWhatStandsNow(Checks checks) {
        RiversQueue x = twoHoursOn();
        Told before = Told.by(x);
        x.image();
        x.restore();
        // What happens behind restore() is not the image's either.
        x.hour();
        x.drought(0);
        x.forget();
        x.see(5, 2, true);
        checks.due("restore() again", x.restore(), 2);
        Told.by(x).dueAs(checks, "restored again", before);
    }

    /** HOURS 0, nothing SEEN. */
    private static void asReadIsKept(Checks checks) {
        RiversQueue x = Checks.coastOf(TEXT);
        Told before = Told.by(x);
        checks.due("image() as read", x.image(), 0);
        x.hour();
        x.see(1, 0, true);
        checks.due("restore() as read", x.restore(), 0);
        Told.by(x).dueAs(checks, "as read", before);
        checks.due("see() is the first", x.see(1, 0, true), 1);
    }

    private static void sixSeenAreKept(Checks checks) {
        RiversQueue x = twoHoursOn();
        for (int i = 3; i <= 6; i++) {
            x.see(i, 2, false);
        }
        RiversQueue twin = twoHoursOn();
        for (int i = 3; i <= 6; i++) {
            twin.see(i, 2, false);
        }
        x.image();
        x.forget();
        checks.due("room behind forget()", x.see(1, 0, true), 1);
        x.restore();
        checks.due("no room behind restore()", x.see(1, 0, true), Checks.FULL);
        Told.by(x).dueAs(checks, "six are restored", Told.by(twin));
    }

    /** "one; the latest". */
    private static void theLatestIsKept(Checks checks) {
        RiversQueue x = Checks.coastOf(TEXT);
        checks.due("image() at first", x.image(), 0);
        x.hour();
        checks.due("image() an hour on", x.image(), 1);
        x.hour();
        checks.due("restore() of the latest", x.restore(), 1);
        checks.due("count(3)", x.count(3), 1);
        checks.due("restore() again", x.restore(), 1);
    }

    private static void whatCountsOn(Checks checks) {
        RiversQueue x = twoHoursOn();
        x.image();
        x.best(0);
        x.letter('r');
        x.restore();
        checks.due("count(8) counts on", x.count(8), 1);
        checks.due("count(7) counts on", x.count(7), 1);
        checks.due("the page stands", x.count(6), 1);
        checks.due("its letter", x.fault(), 1);
    }

    /** What other tests lean on, who ask whether a refused call changes the image. */
    private static void theScenesHaveImages(Checks checks) {
        for (Scene scene : new Scene[] {Scene.FIVE, Scene.FULL}) {
            RiversQueue x = scene.get();
            checks.due(scene + " stands in hour", x.count(3), 3);
            checks.due(scene + " goes back to hour", x.restore(), 2);
            checks.due(scene + " has seen by then", x.count(5), 1);
        }
    }

    private static void imageRefuses(Checks checks) {
        checks.dueRefused("image()", Scene.WITHOUT_COAST, x -> x.image(), Checks.STATE);
        RiversQueue x = new RiversQueue();
        x.image();
        Checks.write(x, TEXT);
        x.coast();
        checks.due("a refused image() keeps none", x.restore(), Checks.STATE);
    }

    private static RiversQueue lettersOnACoast() {
        RiversQueue x = twoHoursOn();
        Checks.write(x, "r10,f20;1");
        return x;
    }

    /** "STATE: none was kept ..". */
    private static void noneWasKept(Checks checks) {
        checks.dueRefused("restore() of none", Scene.WITHOUT_COAST, x -> x.restore(), Checks.STATE);
        checks.dueRefused("restore() of none", Scene.TWO, x -> x.restore(), Checks.STATE);
        checks.dueRefused("restore() of none, two hours on", ImageTest::twoHoursOn, x -> x.restore(), Checks.STATE);
        checks.dueRefused("restore() of none, letters", ImageTest::lettersOnACoast, x -> x.restore(), Checks.STATE);
    }

    private static RiversQueue readAgain(String text) {
        RiversQueue x = twoHoursOn();
        x.image();
        Checks.write(x, text);
        x.coast();
        return x;
    }

    /** ".. or there is another COAST since": the same text is another one, what is no coast is none. */
    private static void anotherCoastSince(Checks checks) {
        String call = "restore() of another coast";
        checks.dueRefused(call, () -> readAgain(TEXT), x -> x.restore(), Checks.STATE);
        checks.dueRefused(call, () -> readAgain("b40,o52;3"), x -> x.restore(), Checks.STATE);
        checks.dueRefused(call, () -> readAgain("b40,o52,r11,f22,t33;3"), x -> x.restore(), Checks.STATE);
        RiversQueue x = readAgain(TEXT);
        checks.due("image() of this coast", x.image(), 0);
        x.hour();
        checks.due("restore() of this coast", x.restore(), 0);
        RiversQueue y = readAgain("r10,f20;0");
        checks.due("no other coast was read", y.restore(), 2);
    }
}
