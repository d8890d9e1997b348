import java.math.BigInteger;

/** Promises 19 and 20: count, digest; and what an object tells by its 512th call. */
public final class TellTest {
    public static void main(String[] args) {
        Checks checks = new Checks("TellTest");
        counts(checks);
        countsWhatWasRead(checks);
        countRefuses(checks);
        digestOfEachScene(checks);
        digestWraps(checks);
        digestWithAll(checks);
        digestOfLetters(checks);
        digestOfOneNumberMore(checks);
        tellingChangesNothing(checks);
        the512thCall(checks);
        checks.end();
    }

    private static void due(Checks checks, String when, RiversQueue x, int... counts) {
        for (int what = 0; what < counts.length; what++) {
            checks.due(when + ": count(" + what + ")", x.count(what), counts[what]);
        }
    }

    private static void counts(Checks checks) {
        due(checks, "new", new RiversQueue(), 0, 0, 0, 0, 0, 0, 0, 0, 0);
        RiversQueue x = Checks.coastOf("b50,b41,b12;3");
        due(checks, "as read", x, 3, 3, 10, 0, 0, 0, 0, 1, 0);
        x.hour();
        due(checks, "an hour on", x, 3, 3, 10, 1, 3, 0, 0, 1, 0);
        x.hour();
        due(checks, "two hours on", x, 3, 3, 11, 2, 5, 0, 0, 1, 0);
        x.see(1, 1, true);
        x.letter(1);
        x.best(14);
        x.best(15);
        x.drought(1);
        due(checks, "all of them", x, 3, 3, 5, 2, 5, 1, 1, 1, 1);
        x.blank();
        Checks.write(x, "r95,r95;9");
        x.coast();
        due(checks, "another coast", x, 2, 9, 18, 0, 0, 0, 0, 2, 1);
        RiversQueue most = Checks.coastWith("b95,b95,b95,b95,b95;9", 99, 99, 99, 99, 99);
        due(checks, "as much as can stand", most, 5, 9, 495, 0, 0, 0, 0, 1, 0);
        RiversQueue full = Scene.FULL.get();
        due(checks, "as full as can be", full, 5, 7, full.count(2), 3, full.count(4), 6, 24, 1, 30);
    }

    /** "counts on, whatever is read or restored"; what is refused is not counted. */
    private static void countsWhatWasRead(Checks checks) {
        RiversQueue x = new RiversQueue();
        for (int times = 1; times <= 20; times++) {
            x.coast();
            checks.due("count(7) of what was refused", x.count(7), times - 1);
            Checks.write(x, "r10,f20;1");
            x.coast();
            checks.due("count(7)", x.count(7), times);
            x.image();
            x.best(0);
            x.best(9);
            x.restore();
            checks.due("count(7) behind restore()", x.count(7), times);
            checks.due("count(8) behind restore()", x.count(8), times);
        }
    }

    private static void countRefuses(Checks checks) {
        for (int what : Checks.outside(0, 8)) {
            checks.dueRefused("count(" + what + ")", Scene.values(), x -> x.count(what), Checks.OUTSIDE);
        }
    }

    private static void digestOfEachScene(Checks checks) {
        dueDigest(checks, Scene.NEW.get(), "", "NEW");
        dueDigest(checks, Scene.WRITTEN.get(), "r10,f20;", "WRITTEN");
        dueDigest(checks, Scene.TWO.get(), "", "TWO");
        dueDigest(checks, Scene.FIVE.get(), "r9;", "FIVE");
        dueDigest(checks, Scene.FULL.get(), "r9;" + "r".repeat(21), "FULL");
    }

    /** What is on the page is told by digest() alone. */
    private static void dueDigest(Checks checks, RiversQueue x, String page, String when) {
        checks.due("digest(), " + when, x.digest(), told(x, page).longValue());
    }

    /** Not wrapped: as large as it gets. */
    private static BigInteger told(RiversQueue x, String page) {
        BigInteger h = BigInteger.valueOf(971);
        for (int river = 0; river < x.count(0); river++) {
            for (int what = 0; what <= 7; what++) {
                h = with(h, x.river(river, what));
            }
        }
        for (int place = 0; place < x.count(0); place++) {
            h = with(h, x.row(place));
        }
        if (x.count(0) > 0) {
            h = with(h, x.wide(12, 0));
            h = with(h, x.wide(12, 1));
        }
        for (char letter : page.toCharArray()) {
            h = with(h, letter);
        }
        for (int what = 0; what <= 8; what++) {
            h = with(h, x.count(what));
        }
        return h;
    }

    private static BigInteger with(BigInteger h, int number) {
        return h.multiply(BigInteger.valueOf(31)).add(BigInteger.valueOf(number));
    }

    /** "(as longs, wrapping)": nine counts alone just fit, with two letters they are beyond 2 to the 63. */
    private static void digestWraps(Checks checks) {
        BigInteger beyond = BigInteger.ONE.shiftLeft(63);
        RiversQueue fits = new RiversQueue();
        checks.due("it fits", told(fits, "").compareTo(beyond) < 0);
        dueDigest(checks, fits, "", "fits");
        RiversQueue wraps = Checks.pageOf("~~");
        checks.due("it wraps", told(wraps, "~~").compareTo(beyond) >= 0);
        dueDigest(checks, wraps, "~~", "wraps");
        checks.due("it wraps many times", told(Scene.FULL.get(), "").bitLength() > 256);
    }

    private static void digestWithAll(Checks checks) {
        RiversQueue x = Checks.coastOf("r10,f21,b32,o43,t54;7");
        dueDigest(checks, x, "", "as read");
        x.hour();
        dueDigest(checks, x, "", "an hour on");
        x.rain(0, 50);
        dueDigest(checks, x, "", "rain");
        x.drought(4);
        dueDigest(checks, x, "", "drought");
        RiversQueue y = Checks.coastOf("r10,f21,b32,o43,t54;7");
        y.see(4, 0, true);
        dueDigest(checks, y, "", "seen");
        y.image();
        y.hour();
        y.restore();
        dueDigest(checks, y, "", "restored");
        y.best(0);
        dueDigest(checks, y, "", "best");
    }

    /** "letters of THE PAGE, each by its code". */
    private static void digestOfLetters(Checks checks) {
        for (int code = 1; code <= 126; code++) {
            String page = "" + (char) code;
            dueDigest(checks, Checks.pageOf(page), page, "of the letter " + code);
        }
        for (int many = 0; many <= 24; many++) {
            String page = "~".repeat(many);
            dueDigest(checks, Checks.pageOf(page), page, "of " + many + " letters");
        }
        RiversQueue gone = Checks.pageOf("r9;~");
        gone.blank();
        dueDigest(checks, gone, "", "letters that are gone don't count");
    }

    private static void digestOfOneNumberMore(Checks checks) {
        RiversQueue x = Checks.coastOf("r10,f21;7");
        long h = x.digest();
        x.best(0);
        checks.due("the last number is count(8)", x.digest(), h + 1);
    }

    private static void tellingChangesNothing(Checks checks) {
        for (Scene scene : Scene.values()) {
            RiversQueue x = scene.get();
            Told before = Told.by(x);
            Told.by(x).dueAs(checks, scene + " tells again", before);
        }
    }

    /** "An object is used for at most 512 calls": all of them are answered. */
    private static void the512thCall(Checks checks) {
        RiversQueue x = Checks.coastOf("b95,b00;5");
        int calls = 10;
        for (int hour = 1; calls < 509; hour++, calls++) {
            checks.due("the hour " + hour, x.hour(), 5);
        }
        checks.due("the 510th call, count(3)", x.count(3), 499);
        checks.due("the 511th call, count(4)", x.count(4), 2495);
        checks.due("the 512th call, river(0, 4)", x.river(0, 4), 2495);
        RiversQueue y = new RiversQueue();
        for (int i = 0; i < 511; i++) {
            y.letter(114);
        }
        checks.due("the 512th call, letter()", y.letter(114), Checks.FULL);
    }
}
