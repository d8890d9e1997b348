/** Promise 16: seasons. By the seed 1 the draws begin 16838, 5758, 10113, 17515, 31051, 5627. */
public final class SeasonsTest {
    public static void main(String[] args) {
        Checks checks = new Checks("SeasonsTest");
        rainThenHour(checks);
        muchFirstThenRiver(checks);
        rainEndsAt99(checks);
        theSeedThen(checks);
        fromNowAsItIs(checks);
        refuses(checks);
        checks.end();
    }

    private static void due(Checks checks, RiversQueue x, int hours, int seed, int taken, int stands) {
        String call = "seasons(" + hours + ", " + seed + ", ";
        checks.due(call + "0)", x.seasons(hours, seed, 0), taken);
        checks.due(call + "1)", x.seasons(hours, seed, 1), stands);
    }

    private static void rainThenHour(Checks checks) {
        // Rains by seed 1, of two rivers: 2 in 0, 1 in 1, 3 in 1.
        RiversQueue x = Checks.coastOf("b00,b00;1");
        due(checks, x, 1, 1, 1, 1);
        due(checks, x, 2, 1, 2, 1);
        due(checks, x, 3, 1, 3, 3);
        // By seed 0 the first rain is of nothing.
        due(checks, x, 1, 0, 0, 0);
    }

    private static void muchFirstThenRiver(Checks checks) {
        // Rains by seed 1, of three rivers: 2 in 1, 1 in 1. The first hour 0 has none.
        RiversQueue x = Checks.coastOf("b00,b00,b00;1");
        due(checks, x, 1, 1, 0, 2);
        due(checks, x, 2, 1, 1, 2);
    }

    private static void rainEndsAt99(Checks checks) {
        RiversQueue x = Checks.coastOf("b90,b00;1");
        x.rain(0, 50);
        x.rain(0, 39);
        due(checks, x, 1, 1, 1, 98);
    }

    private static void theSeedThen(Checks checks) {
        RiversQueue x = Checks.coastOf("b00,b00;1");
        checks.due("seasons(1, 1, 2)", x.seasons(1, 1, 2), 377401575);
        checks.due("seasons(1, 0, 2)", x.seasons(1, 0, 2), 1406932606);
        checks.due("seasons(1, 2147483647, 2)", x.seasons(1, Integer.MAX_VALUE, 2), 288979989);
        int seed = 7;
        for (int i = 0; i < 60; i++) {
            seed = x.seasons(1, seed, 2);
        }
        checks.due("60 hours at once", x.seasons(60, 7, 2), seed);
    }

    private static void fromNowAsItIs(Checks checks) {
        RiversQueue x = Checks.coastOf("b30,b00;5");
        due(checks, x, 1, 1, 5, 0);
        long h = x.digest();
        due(checks, x, 60, 1, x.seasons(60, 1, 0), x.seasons(60, 1, 1));
        checks.due("they only would be", x.digest(), h);
        x.drought(0);
        // 2 in 0, which is behind 1 now, and stays.
        due(checks, x, 1, 1, 0, 2);
    }

    private static void refuses(Checks checks) {
        RiversQueue x = Checks.coastOf("b30,b00;5");
        long h = x.digest();
        checks.dueUnchanged("seasons(0, 1, 0)", x, x.seasons(0, 1, 0), Checks.OUTSIDE, h);
        checks.dueUnchanged("seasons(61, 1, 0)", x, x.seasons(61, 1, 0), Checks.OUTSIDE, h);
        checks.dueUnchanged("seasons(60, -1, 0)", x, x.seasons(60, -1, 0), Checks.OUTSIDE, h);
        checks.dueUnchanged("seasons(60, least, 0)", x, x.seasons(60, Integer.MIN_VALUE, 0), Checks.OUTSIDE, h);
        checks.dueUnchanged("seasons(60, 1, 3)", x, x.seasons(60, 1, 3), Checks.OUTSIDE, h);
        for (int wild : Checks.WILD) {
            checks.dueUnchanged("seasons(" + wild + ", 1, 0)", x, x.seasons(wild, 1, 0), Checks.OUTSIDE, h);
            checks.dueUnchanged("seasons(1, 1, " + wild + ")", x, x.seasons(1, 1, wild), Checks.OUTSIDE, h);
        }
    }
}
