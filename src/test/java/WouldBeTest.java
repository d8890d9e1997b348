/** Promises 12 and 13: wide, best; and of promise 6 WAITS. */
public final class WouldBeTest {
    public static void main(String[] args) {
        Checks checks = new Checks("WouldBeTest");
        waits(checks);
        waitsUpTo60(checks);
        wideTells(checks);
        wideTellsTheLeastHour(checks);
        wideRefuses(checks);
        bestTells(checks);
        bestTakesTheFirstOfLikeOnes(checks);
        bestIsDone30Times(checks);
        nothingChanges(checks);
        checks.end();
    }

    private static void waits(Checks checks) {
        RiversQueue x = Checks.coastOf("b30,b10,b00,o10;1");
        checks.due("waits of the first", x.river(0, 5), 1);
        checks.due("waits behind three hours", x.river(1, 5), 4);
        checks.due("waits of no water", x.river(2, 5), Checks.NONE);
        // 2 goes behind in hour 5; then the old one, which is first.
        checks.due("waits of the old one", x.river(3, 5), 6);
        x.hour();
        checks.due("an hour on", x.river(1, 5), 3);
        RiversQueue y = Checks.coastOf("o10,r90;5");
        checks.due("waits of one that pushes", y.river(1, 5), 1);
    }

    private static void waitsUpTo60(Checks checks) {
        RiversQueue x = Checks.coastOf("b90,b10;1");
        x.rain(0, 50);
        checks.due("behind 59 hours of another", x.river(1, 5), 60);
        x.rain(0, 1);
        checks.due("behind 60 hours of another", x.river(1, 5), Checks.NONE);
    }

    private static void wideTells(Checks checks) {
        RiversQueue x = Checks.coastOf("r11,r01;1");
        // Two flow in by the hour, and one goes: 2, 3, 4 ..
        checks.due("wide(1, 0)", x.wide(1, 0), 2);
        checks.due("wide(1, 1)", x.wide(1, 1), 1);
        checks.due("wide(10, 0)", x.wide(10, 0), 11);
        checks.due("wide(10, 1)", x.wide(10, 1), 10);
        checks.due("wide(60, 0)", x.wide(60, 0), 61);
        checks.due("wide(60, 1)", x.wide(60, 1), 60);
        RiversQueue y = Checks.coastOf("b30,b30;2");
        checks.due("what stands now is not counted", y.wide(12, 0), 4);
        checks.due("it shrinks", y.wide(12, 1), 1);
    }

    private static void wideTellsTheLeastHour(Checks checks) {
        RiversQueue none = Checks.coastOf("t00,t00;9");
        checks.due("wide(60, 0) of no water", none.wide(60, 0), 0);
        checks.due("wide(60, 1) of no water", none.wide(60, 1), 1);
        RiversQueue even = Checks.coastOf("b91,b00;1");
        checks.due("wide(60, 0) of as much in as out", even.wide(60, 0), 9);
        checks.due("wide(60, 1) of as much in as out", even.wide(60, 1), 1);
        RiversQueue full = Checks.coastOf("b05,b00;1");
        full.rain(0, 50);
        full.rain(0, 41);
        // 91 grows by 5 and loses 1: 95, 98, then 99 at most less 1.
        checks.due("wide(60, 0) of one that is full", full.wide(60, 0), 98);
        checks.due("wide(60, 1) of one that is full", full.wide(60, 1), 2);
    }

    private static void wideRefuses(Checks checks) {
        RiversQueue x = Checks.coastOf("r11,r01;1");
        long h = x.digest();
        checks.dueUnchanged("wide(0, 0)", x, x.wide(0, 0), Checks.OUTSIDE, h);
        checks.dueUnchanged("wide(61, 0)", x, x.wide(61, 0), Checks.OUTSIDE, h);
        checks.dueUnchanged("wide(60, 2)", x, x.wide(60, 2), Checks.OUTSIDE, h);
        for (int wild : Checks.WILD) {
            checks.dueUnchanged("wide(" + wild + ", 0)", x, x.wide(wild, 0), Checks.OUTSIDE, h);
            checks.dueUnchanged("wide(1, " + wild + ")", x, x.wide(1, wild), Checks.OUTSIDE, h);
        }
    }

    private static void bestTells(Checks checks) {
        // Each in turn loses all: in hour 10 the second one, and one hour's flow of the first stands then.
        dueBest(checks, "b22,b11;9", 1, 1, 0);
        dueBest(checks, "r00,b31;1", 3, 1, 0);
        dueBest(checks, "b02,r81,b70;9", 2, 1, 2, 0);
        dueBest(checks, "b20,f82,b51;7", 1, 2, 0, 1);
    }

    private static void bestTakesTheFirstOfLikeOnes(Checks checks) {
        dueBest(checks, "b30,b30,b30;2", 0, 0, 1, 2);
        dueBest(checks, "r00,r00,r00,r00,r00;9", 0, 0, 1, 2, 3, 4);
        dueBest(checks, "b60,b61,b91;6", 1, 1, 0, 2);
        RiversQueue x = Checks.coastOf("b30,b30,b30;2");
        x.drought(0);
        checks.due("the order is not told by the row: best(10)", x.best(10), 0);
    }

    private static void dueBest(Checks checks, String text, int least, int... order) {
        RiversQueue x = Checks.coastOf(text);
        checks.due("best(0) of " + text, x.best(0), least);
        for (int place = 0; place < 5; place++) {
            int want = place < order.length ? order[place] : Checks.NONE;
            checks.due("best(" + (10 + place) + ") of " + text, x.best(10 + place), want);
        }
        checks.due("count(8)", x.count(8), 6);
    }

    private static void bestIsDone30Times(Checks checks) {
        RiversQueue x = Checks.coastOf("b30,b10;1");
        for (int i = 1; i <= 29; i++) {
            x.best(i % 2 == 0 ? 0 : 14);
            checks.due("best() once more: count(8)", x.count(8), i);
        }
        long h = x.digest();
        checks.dueUnchanged("best(9)", x, x.best(9), Checks.OUTSIDE, h);
        checks.dueUnchanged("best(15)", x, x.best(15), Checks.OUTSIDE, h);
        for (int wild : Checks.WILD) {
            checks.dueUnchanged("best(" + wild + ")", x, x.best(wild), Checks.OUTSIDE, h);
        }
        checks.due("the 30th best(0)", x.best(0), 0);
        h = x.digest();
        checks.dueUnchanged("the 31st best(0)", x, x.best(0), Checks.STATE, h);
        checks.dueUnchanged("best(14) then", x, x.best(14), Checks.STATE, h);
        checks.dueUnchanged("best(15) then", x, x.best(15), Checks.OUTSIDE, h);
        Checks.write(x, "b30,b10;1");
        x.coast();
        checks.due("another coast gives no more", x.best(0), Checks.STATE);
        checks.due("count(8) then", x.count(8), 30);
    }

    private static void nothingChanges(Checks checks) {
        RiversQueue x = Checks.coastOf("r11,f21,b32,o43,t54;7");
        x.hour();
        x.see(1, 1, true);
        long h = x.digest();
        x.wide(60, 0);
        x.wide(60, 1);
        for (int river = 0; river < 5; river++) {
            for (int what = 0; what <= 7; what++) {
                x.river(river, what);
            }
        }
        x.seasons(60, 1, 0);
        checks.due("what would be changes nothing", x.digest(), h);
        RiversQueue y = Checks.coastOf("r11,f21,b32,o43,t54;7");
        y.hour();
        y.see(1, 1, true);
        x.best(12);
        y.best(0);
        checks.due("best() changes its count alone", x.digest(), y.digest());
        checks.due("best() is counted", x.digest() != h);
    }
}
