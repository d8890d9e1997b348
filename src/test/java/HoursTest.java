/** Promises 9 to 11: hour, rain, drought. */
public final class HoursTest {
    public static void main(String[] args) {
        Checks checks = new Checks("HoursTest");
        whoPushesByWhom(checks);
        growthComesFirst(checks);
        allPushOnceByTheRow(checks);
        theSeaTakes(checks);
        growthEndsAt99(checks);
        rainAdds(checks);
        rainRefuses(checks);
        droughtTakesAll(checks);
        checks.end();
    }

    /** Bar 1 and water left over: so the first one keeps its place, and the row tells who pushed. */
    private static void whoPushesByWhom(Checks checks) {
        duePush(checks, "r30,r60;1", false);
        duePush(checks, "r30,r70;1", true);
        duePush(checks, "t30,r60;1", false);
        duePush(checks, "b30,r70;1", true);
        duePush(checks, "f30,f30;1", false);
        duePush(checks, "f30,f40;1", true);
        duePush(checks, "r30,f40;1", true);
        duePush(checks, "t30,f30;1", false);
        duePush(checks, "f30,t20;1", false);
        duePush(checks, "f30,t30;1", true);
        duePush(checks, "r30,t40;1", true);
        duePush(checks, "r20,b90;1", false);
        duePush(checks, "t20,b90;1", false);
        duePush(checks, "r20,o90;1", false);
        duePush(checks, "b20,o90;1", false);
        duePush(checks, "o20,o90;1", false);
        duePush(checks, "o90,r20;1", true);
        duePush(checks, "o90,f20;1", true);
        duePush(checks, "o90,b20;1", true);
        duePush(checks, "o90,t20;1", true);
        duePush(checks, "o90,r00;1", false);
        duePush(checks, "o90,f00;1", false);
        duePush(checks, "o90,b00;1", false);
        duePush(checks, "o90,t00;1", false);
    }

    private static void duePush(Checks checks, String text, boolean pushes) {
        RiversQueue x = Checks.coastOf(text);
        checks.due("hour() of " + text, x.hour(), 1);
        if (pushes) {
            checks.dueRow(text, x, 1, 0);
        } else {
            checks.dueRow(text, x, 0, 1);
        }
    }

    private static void growthComesFirst(Checks checks) {
        RiversQueue x = Checks.coastOf("f20,f15;1");
        checks.due("hour()", x.hour(), 1);
        checks.dueRow("6 pushes by 2", x, 1, 0);
        checks.due("river(1, 1)", x.river(1, 1), 5);
        RiversQueue dry = Checks.coastOf("b00,b03;9");
        checks.due("hour() of none ahead", dry.hour(), 0);
        checks.dueRow("none goes behind", dry, 1, 0);
        checks.due("hour() of what has grown", dry.hour(), 6);
    }

    private static void allPushOnceByTheRow(Checks checks) {
        RiversQueue x = Checks.coastOf("r10,f20,f30;1");
        x.hour();
        // From behind the first on: f1 by r0, then f2 by r0, but f2 no more by f1.
        checks.dueRow("r10,f20,f30", x, 1, 2, 0);
        RiversQueue y = Checks.coastOf("r20,o90,f30,b10;1");
        y.hour();
        // o never; f by o; b by o, which stands ahead of it by then.
        checks.dueRow("r20,o90,f30,b10", y, 0, 2, 3, 1);
        RiversQueue z = Checks.coastOf("o90,b20,b30,b40,r10;1");
        z.hour();
        checks.dueRow("an old one gives way to all", z, 1, 2, 3, 4, 0);
    }

    private static void theSeaTakes(Checks checks) {
        RiversQueue x = Checks.coastOf("b50,b10;3");
        checks.due("as much as the bar", x.hour(), 3);
        checks.dueRow("it has some then", x, 0, 1);
        checks.due("all that it has", x.hour(), 2);
        checks.dueRow("it has none then", x, 1, 0);
        checks.due("of the next", x.hour(), 1);
        checks.dueRow("it has none either", x, 0, 1);
        checks.due("of none", x.hour(), 0);
        checks.dueRow("the first goes behind all the same", x, 1, 0);
        checks.due("river(0, 4)", x.river(0, 4), 5);
        checks.due("river(1, 4)", x.river(1, 4), 1);
        checks.due("count(2)", x.count(2), 0);
        checks.due("count(3)", x.count(3), 4);
        checks.due("count(4)", x.count(4), 6);
        RiversQueue y = Checks.coastOf("b30,b10,b20;3");
        checks.due("just the bar", y.hour(), 3);
        checks.dueRow("it has none then, too", y, 1, 2, 0);
        RiversQueue empty = Checks.coastOf("t00,t00;9");
        checks.due("hour() of no water", empty.hour(), 0);
        checks.dueRow("t pushes by t, which is sent behind", empty, 0, 1);
    }

    private static void growthEndsAt99(Checks checks) {
        RiversQueue x = Checks.coastOf("b95,b00;1");
        checks.due("rain(0, 50)", x.rain(0, 50), 59);
        checks.due("rain(0, 35)", x.rain(0, 35), 94);
        checks.due("hour()", x.hour(), 1);
        checks.due("94 and 5 less 1", x.river(0, 1), 98);
        checks.due("hour()", x.hour(), 1);
        checks.due("99 at most, less 1", x.river(0, 1), 98);
    }

    private static void rainAdds(Checks checks) {
        RiversQueue x = Checks.coastOf("b35,b90;1");
        checks.due("rain(0, 1)", x.rain(0, 1), 4);
        checks.due("rain(1, 50)", x.rain(1, 50), 59);
        checks.due("rain(1, 40)", x.rain(1, 40), 99);
        checks.due("rain(1, 1)", x.rain(1, 1), 99);
        checks.due("river(1, 1)", x.river(1, 1), 99);
        checks.due("river(0, 1)", x.river(0, 1), 4);
        checks.due("count(2)", x.count(2), 103);
        checks.dueRow("rain moves none", x, 0, 1);
    }

    private static void rainRefuses(Checks checks) {
        RiversQueue x = Checks.coastOf("b35,b90;1");
        long h = x.digest();
        checks.dueUnchanged("rain(0, 0)", x, x.rain(0, 0), Checks.OUTSIDE, h);
        checks.dueUnchanged("rain(0, 51)", x, x.rain(0, 51), Checks.OUTSIDE, h);
        checks.dueUnchanged("rain(2, 1)", x, x.rain(2, 1), Checks.UNKNOWN, h);
        checks.dueUnchanged("rain(2, 0)", x, x.rain(2, 0), Checks.UNKNOWN, h);
        for (int wild : Checks.WILD) {
            checks.dueUnchanged("rain(" + wild + ", 1)", x, x.rain(wild, 1), Checks.UNKNOWN, h);
            checks.dueUnchanged("rain(1, " + wild + ")", x, x.rain(1, wild), Checks.OUTSIDE, h);
            checks.dueUnchanged("rain(" + wild + ", wild)", x, x.rain(wild, wild), Checks.UNKNOWN, h);
        }
    }

    private static void droughtTakesAll(Checks checks) {
        RiversQueue x = Checks.coastOf("b35,b90,b10;1");
        x.hour();
        checks.due("drought(0)", x.drought(0), 7);
        checks.dueRow("drought(0)", x, 1, 2, 0);
        checks.due("river(0, 1)", x.river(0, 1), 0);
        checks.due("river(0, 4)", x.river(0, 4), 1);
        checks.due("count(2)", x.count(2), 10);
        checks.due("drought(2)", x.drought(2), 1);
        checks.dueRow("drought(2)", x, 1, 0, 2);
        checks.due("drought(0) of none", x.drought(0), 0);
        checks.dueRow("it goes behind all the same", x, 1, 2, 0);
        checks.due("drought(0) of the last", x.drought(0), 0);
        checks.dueRow("the last stays", x, 1, 2, 0);
        long h = x.digest();
        checks.dueUnchanged("drought(3)", x, x.drought(3), Checks.UNKNOWN, h);
        for (int wild : Checks.WILD) {
            checks.dueUnchanged("drought(" + wild + ")", x, x.drought(wild), Checks.UNKNOWN, h);
        }
    }
}
