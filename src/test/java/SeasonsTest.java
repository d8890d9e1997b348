import java.math.BigInteger;

/** Promise 16: seasons. By the seed 1 the draws begin 16838, 5758, 10113, 17515, 31051, 5627. */
public final class SeasonsTest {
    /** At the ends, at the bounds of the draws' powers of 2, and where a product is beyond 2 to the 31 or the 63. */
    private static final int[] SEEDS = {0, 1, 2, 3, 7, 65535, 65536, 65537, 12345, 1103515245, (1 << 30) - 1, 1 << 30,
        (1 << 30) + 1, Integer.MAX_VALUE - 1, Integer.MAX_VALUE};
    private static final BigInteger TIMES = BigInteger.valueOf(1103515245);
    private static final BigInteger TWO_TO_THE_31 = BigInteger.ONE.shiftLeft(31);
    private static final String[] COASTS = {"b00,b00;1", "r31,f82;4", "o12,b34,r50;3", "r25,f14,t03,o92;5",
        "r10,f21,b32,o43,t54;7", "t95,t95,t95,t95,t95;1"};

    public static void main(String[] args) {
        Checks checks = new Checks("SeasonsTest");
        rainThenHour(checks);
        muchFirstThenRiver(checks);
        rainEndsAt99(checks);
        theSeedThen(checks);
        theSeedWraps(checks);
        asRainAndHourTell(checks);
        fromNowAsItIs(checks);
        hoursOutside(checks);
        seedOutside(checks);
        whatOutside(checks);
        noCoast(checks);
        checks.end();
    }

    private static void due(Checks checks, RiversQueue x, int hours, int seed, int taken, int stands) {
        String call = "seasons(" + hours + ", " + seed + ", ";
        checks.due(call + "0)", x.seasons(hours, seed, 0), taken);
        checks.due(call + "1)", x.seasons(hours, seed, 1), stands);
    }

    private static void rainThenHour(Checks checks) {
        // Rains by seed 1, of two rivers: 2 in 0, 1 in 1, 3 in 1.
        RiversQueue x = Checks.coastOf("b00,b00;1");
        due(checks, x, 1, 1, 1, 1);
        due(checks, x, 2, 1, 2, 1);
        due(checks, x, 3, 1, 3, 3);
        // By seed 0 the first rain is of nothing.
        due(checks, x, 1, 0, 0, 0);
    }

    private static void muchFirstThenRiver(Checks checks) {
        // Rains by seed 1, of three rivers: 2 in 1, 1 in 1. The first hour 0 has none.
        RiversQueue x = Checks.coastOf("b00,b00,b00;1");
        due(checks, x, 1, 1, 0, 2);
        due(checks, x, 2, 1, 1, 2);
    }

    private static void rainEndsAt99(Checks checks) {
        due(checks, Checks.coastWith("b90,b00;1", 96), 1, 1, 1, 97);
        due(checks, Checks.coastWith("b90,b00;1", 97), 1, 1, 1, 98);
        due(checks, Checks.coastWith("b90,b00;1", 98), 1, 1, 1, 98);
        due(checks, Checks.coastWith("b90,b00;1", 99), 1, 1, 1, 98);
    }

    private static void theSeedThen(Checks checks) {
        RiversQueue x = Checks.coastOf("b00,b00;1");
        checks.due("seasons(1, 1, 2)", x.seasons(1, 1, 2), 377401575);
        checks.due("seasons(1, 0, 2)", x.seasons(1, 0, 2), 1406932606);
        checks.due("seasons(1, 2147483647, 2)", x.seasons(1, Integer.MAX_VALUE, 2), 288979989);
        int seed = 7;
        for (int i = 0; i < 60; i++) {
            seed = x.seasons(1, seed, 2);
        }
        checks.due("60 hours at once", x.seasons(60, 7, 2), seed);
    }

    private static BigInteger next(BigInteger seed) {
        return seed.multiply(TIMES).add(BigInteger.valueOf(12345)).mod(TWO_TO_THE_31);
    }

    /** "that by 65536 (rounded down), its rest". */
    private static int drawOf(BigInteger seed, int many) {
        return seed.divide(BigInteger.valueOf(65536)).mod(BigInteger.valueOf(many)).intValue();
    }

    /** "1103515245 times it and 12345, its rest by 2 to the 31". */
    private static void theSeedWraps(Checks checks) {
        RiversQueue x = Checks.coastOf("b00,b00;1");
        for (int seed : SEEDS) {
            for (int hours : new int[] {1, 2, 59, 60}) {
                BigInteger then = BigInteger.valueOf(seed);
                for (int draw = 0; draw < 2 * hours; draw++) {
                    then = next(then);
                }
                checks.due("seasons(" + hours + ", " + seed + ", 2)", x.seasons(hours, seed, 2), then.longValueExact());
            }
        }
    }

    /** "as they would be": another object has these rains and hours; a rain of nothing is none. */
    private static void asRainAndHourTell(Checks checks) {
        for (String text : COASTS) {
            for (int seed : SEEDS) {
                RiversQueue x = Checks.coastOf(text);
                RiversQueue goes = Checks.coastOf(text);
                BigInteger drawn = BigInteger.valueOf(seed);
                int taken = 0;
                for (int hours = 1; hours <= 60; hours++) {
                    drawn = next(drawn);
                    int much = drawOf(drawn, 4);
                    drawn = next(drawn);
                    int river = drawOf(drawn, x.count(0));
                    if (much > 0) {
                        goes.rain(river, much);
                    }
                    taken += goes.hour();
                    if (hours <= 2 || hours >= 59) {
                        due(checks, x, hours, seed, taken, goes.count(2));
                    }
                }
            }
        }
    }

    private static void fromNowAsItIs(Checks checks) {
        RiversQueue x = Scene.FIVE.get();
        RiversQueue twin = Scene.FIVE.get();
        for (int what = 0; what <= 2; what++) {
            x.seasons(60, 1, what);
        }
        Told.by(x).dueAs(checks, "they only would be", Told.by(twin));
        checks.due("the image stands", x.restore(), twin.restore());
        Told.by(x).dueAs(checks, "restored behind seasons()", Told.by(twin));
        RiversQueue y = Checks.coastOf("b30,b00;5");
        due(checks, y, 1, 1, 5, 0);
        y.drought(0);
        // 2 in 0, which is behind 1 now, and stays.
        due(checks, y, 1, 1, 0, 2);
    }

    /** "OUTSIDE: hours (1 to 60) .." ahead of STATE. */
    private static void hoursOutside(Checks checks) {
        for (int hours : Checks.outside(1, 60)) {
            for (int what = 0; what <= 2; what++) {
                int told = what;
                String call = "seasons(" + hours + ", 1, " + what + ")";
                checks.dueRefused(call, Scene.values(), x -> x.seasons(hours, 1, told), Checks.OUTSIDE);
            }
        }
    }

    /** ".. seed (0 at least) ..". */
    private static void seedOutside(Checks checks) {
        for (int seed : new int[] {-1, -2, -65536, Integer.MIN_VALUE + 1, Integer.MIN_VALUE}) {
            for (int what = 0; what <= 2; what++) {
                int told = what;
                String call = "seasons(60, " + seed + ", " + what + ")";
                checks.dueRefused(call, Scene.values(), x -> x.seasons(60, seed, told), Checks.OUTSIDE);
            }
        }
    }

    /** ".. what". */
    private static void whatOutside(Checks checks) {
        for (int what : Checks.outside(0, 2)) {
            String call = "seasons(1, 0, " + what + ")";
            checks.dueRefused(call, Scene.values(), x -> x.seasons(1, 0, what), Checks.OUTSIDE);
        }
    }

    private static void noCoast(Checks checks) {
        for (int what = 0; what <= 2; what++) {
            int told = what;
            checks.dueRefused("seasons(1, 0, ..)", Scene.WITHOUT_COAST, x -> x.seasons(1, 0, told), Checks.STATE);
            checks.dueRefused("seasons(60, 2147483647, ..)", Scene.WITHOUT_COAST,
                x -> x.seasons(60, Integer.MAX_VALUE, told), Checks.STATE);
        }
    }
}
