/** Promises 19 and 20: count, digest. */
public final class TellTest {
    public static void main(String[] args) {
        Checks checks = new Checks("TellTest");
        counts(checks);
        countRefuses(checks);
        digestAsTold(checks, new RiversQueue(), "new");
        digestAsTold(checks, Checks.coastOf("r10,f21,b32,o43,t54;7"), "a coast");
        digestWithAll(checks);
        digestOfOneNumberMore(checks);
        checks.end();
    }

    private static void due(Checks checks, String when, RiversQueue x, int... counts) {
        for (int what = 0; what < counts.length; what++) {
            checks.due(when + ": count(" + what + ")", x.count(what), counts[what]);
        }
    }

    private static void counts(Checks checks) {
        RiversQueue x = Checks.coastOf("b50,b41,b12;3");
        due(checks, "as read", x, 3, 3, 10, 0, 0, 0, 0, 1, 0);
        x.hour();
        due(checks, "an hour on", x, 3, 3, 10, 1, 3, 0, 0, 1, 0);
        x.hour();
        due(checks, "two hours on", x, 3, 3, 11, 2, 5, 0, 0, 1, 0);
        x.see(1, 1, true);
        x.letter(1);
        x.best(14);
        x.best(15);
        x.drought(1);
        due(checks, "all of them", x, 3, 3, 5, 2, 5, 1, 1, 1, 1);
        x.blank();
        Checks.write(x, "r95,r95;9");
        x.coast();
        due(checks, "another coast", x, 2, 9, 18, 0, 0, 0, 0, 2, 1);
    }

    private static void countRefuses(Checks checks) {
        RiversQueue x = Checks.coastOf("b50,b41,b12;3");
        checks.due("count(9)", x.count(9), Checks.OUTSIDE);
        checks.due("count(-1)", x.count(-1), Checks.OUTSIDE);
        checks.due("count(9), new", new RiversQueue().count(9), Checks.OUTSIDE);
        for (int wild : Checks.WILD) {
            checks.due("count(" + wild + ")", x.count(wild), Checks.OUTSIDE);
        }
    }

    /** With the page empty: a letter is told by digest() alone. */
    private static void digestAsTold(Checks checks, RiversQueue x, String when) {
        checks.due("digest(), " + when, x.digest(), told(x, ""));
        checks.due("digest() again, " + when, x.digest(), told(x, ""));
        Checks.write(x, "r9;~");
        checks.due("digest() with letters, " + when, x.digest(), told(x, "r9;~"));
        x.blank();
    }

    private static long told(RiversQueue x, String page) {
        long h = 971;
        for (int river = 0; river < x.count(0); river++) {
            for (int what = 0; what <= 7; what++) {
                h = 31 * h + x.river(river, what);
            }
        }
        for (int place = 0; place < x.count(0); place++) {
            h = 31 * h + x.row(place);
        }
        if (x.count(0) > 0) {
            h = 31 * h + x.wide(12, 0);
            h = 31 * h + x.wide(12, 1);
        }
        for (char letter : page.toCharArray()) {
            h = 31 * h + letter;
        }
        for (int what = 0; what <= 8; what++) {
            h = 31 * h + x.count(what);
        }
        return h;
    }

    private static void digestWithAll(Checks checks) {
        RiversQueue x = Checks.coastOf("r10,f21,b32,o43,t54;7");
        x.hour();
        digestAsTold(checks, x, "an hour on");
        x.rain(0, 50);
        digestAsTold(checks, x, "rain");
        x.drought(4);
        digestAsTold(checks, x, "drought");
        x.see(4, 0, true);
        digestAsTold(checks, x, "seen");
        x.image();
        x.hour();
        x.restore();
        digestAsTold(checks, x, "restored");
        x.best(0);
        digestAsTold(checks, x, "best");
    }

    private static void digestOfOneNumberMore(Checks checks) {
        RiversQueue x = Checks.coastOf("r10,f21;7");
        long h = x.digest();
        x.best(0);
        checks.due("the last number is count(8)", x.digest(), h + 1);
        x.letter(5);
        x.blank();
        checks.due("letters that are gone don't count", x.digest(), h + 1);
    }
}
