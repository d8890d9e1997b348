/** Promises 9 to 11: hour, rain, drought. */
public final class HoursTest {
    public static void main(String[] args) {
        Checks checks = new Checks("HoursTest");
        riversPush(checks);
        floodsPush(checks);
        torrentsPush(checks);
        brooksNeverPush(checks);
        oldOnesNeverPush(checks);
        allOthersPushByOldOnes(checks);
        growthComesFirst(checks);
        growthEndsAt99(checks);
        pushesGoByTheRow(checks);
        eachPushesOnce(checks);
        theSeaTakesTheBarOrAll(checks);
        whoHasNoneGoesBehind(checks);
        hourTellsWhatTheSeaTakes(checks);
        hourRefuses(checks);
        rainUpTo99(checks);
        rainFrom1To50(checks);
        rainOfOneAlone(checks);
        rainRefuses(checks);
        droughtFromEachPlace(checks);
        droughtTakesAll(checks);
        droughtRefuses(checks);
        checks.end();
    }

    /** Bar 1, no flow: the row tells who stood ahead when the sea took, as it is known who has none then. */
    private static void duePush(Checks checks, char ahead, int hasAhead, char behind, int hasBehind, boolean pushes) {
        String text = ahead + "00," + behind + "00;1";
        String call = hasAhead + " of " + ahead + " ahead of " + hasBehind + " of " + behind;
        RiversQueue x = Checks.coastWith(text, hasAhead, hasBehind);
        int first = pushes ? 1 : 0;
        int has = pushes ? hasBehind : hasAhead;
        checks.due("hour(), " + call, x.hour(), Math.min(1, has));
        boolean staysFirst = has > 1;
        checks.due("who is first, " + call, x.row(0), staysFirst ? first : 1 - first);
        checks.due("what the sea took, " + call, x.river(first, 4), Math.min(1, has));
    }

    /** "a RIVER, if it has more than twice as much WATER". */
    private static void riversPush(Checks checks) {
        for (char ahead : new char[] {'r', 'f', 'b', 't'}) {
            duePush(checks, ahead, 0, 'r', 0, false);
            duePush(checks, ahead, 0, 'r', 1, true);
            duePush(checks, ahead, 1, 'r', 2, false);
            duePush(checks, ahead, 1, 'r', 3, true);
            duePush(checks, ahead, 3, 'r', 6, false);
            duePush(checks, ahead, 3, 'r', 7, true);
            duePush(checks, ahead, 49, 'r', 98, false);
            duePush(checks, ahead, 49, 'r', 99, true);
            duePush(checks, ahead, 50, 'r', 99, false);
            duePush(checks, ahead, 99, 'r', 99, false);
        }
    }

    /** "a FLOOD, if it has more". */
    private static void floodsPush(Checks checks) {
        for (char ahead : new char[] {'r', 'f', 'b', 't'}) {
            duePush(checks, ahead, 0, 'f', 0, false);
            duePush(checks, ahead, 0, 'f', 1, true);
            duePush(checks, ahead, 3, 'f', 2, false);
            duePush(checks, ahead, 3, 'f', 3, false);
            duePush(checks, ahead, 3, 'f', 4, true);
            duePush(checks, ahead, 98, 'f', 99, true);
            duePush(checks, ahead, 99, 'f', 99, false);
        }
    }

    /** "a TORRENT, if it has as much, or more". */
    private static void torrentsPush(Checks checks) {
        for (char ahead : new char[] {'r', 'f', 'b', 't'}) {
            duePush(checks, ahead, 0, 't', 0, true);
            duePush(checks, ahead, 1, 't', 0, false);
            duePush(checks, ahead, 3, 't', 2, false);
            duePush(checks, ahead, 3, 't', 3, true);
            duePush(checks, ahead, 3, 't', 4, true);
            duePush(checks, ahead, 99, 't', 98, false);
            duePush(checks, ahead, 99, 't', 99, true);
        }
    }

    /** "a BROOK never". */
    private static void brooksNeverPush(Checks checks) {
        for (char ahead : new char[] {'r', 'f', 'b', 't'}) {
            duePush(checks, ahead, 0, 'b', 0, false);
            duePush(checks, ahead, 0, 'b', 1, false);
            duePush(checks, ahead, 0, 'b', 99, false);
            duePush(checks, ahead, 2, 'b', 99, false);
        }
    }

    /** "an OLD one never", by an OLD one neither. */
    private static void oldOnesNeverPush(Checks checks) {
        for (char ahead : new char[] {'r', 'f', 'b', 'o', 't'}) {
            duePush(checks, ahead, 0, 'o', 0, false);
            duePush(checks, ahead, 0, 'o', 1, false);
            duePush(checks, ahead, 0, 'o', 99, false);
            duePush(checks, ahead, 2, 'o', 99, false);
        }
    }

    /** "all others PUSH by an OLD one, a BROOK, too, just if they have any WATER". */
    private static void allOthersPushByOldOnes(Checks checks) {
        for (char behind : new char[] {'r', 'f', 'b', 't'}) {
            duePush(checks, 'o', 0, behind, 0, false);
            duePush(checks, 'o', 0, behind, 1, true);
            duePush(checks, 'o', 99, behind, 0, false);
            duePush(checks, 'o', 99, behind, 1, true);
            duePush(checks, 'o', 99, behind, 99, true);
        }
    }

    /** "first WATER grows by FLOW in each". */
    private static void growthComesFirst(Checks checks) {
        RiversQueue x = Checks.coastOf("f20,f15;1");
        checks.due("hour()", x.hour(), 1);
        checks.dueRow("6 pushes by 2", x, 1, 0);
        checks.due("river(1, 1)", x.river(1, 1), 5);
        RiversQueue old = Checks.coastOf("o90,b01;1");
        checks.due("hour() of what has just come", old.hour(), 1);
        checks.due("it pushed by the old one", old.river(1, 4), 1);
        RiversQueue dry = Checks.coastOf("b00,b03;9");
        checks.due("hour() of none ahead", dry.hour(), 0);
        checks.dueRow("none goes behind", dry, 1, 0);
        checks.due("hour() of what has grown", dry.hour(), 6);
    }

    /** "(99 at most)". */
    private static void growthEndsAt99(Checks checks) {
        for (int flow = 0; flow <= 5; flow++) {
            for (int water = 93; water <= 99; water++) {
                RiversQueue x = Checks.coastWith("b90,b0" + flow + ";1", 9, water);
                x.hour();
                checks.due(water + " and " + flow, x.river(1, 1), Math.min(99, water + flow));
                checks.due(water + " and " + flow + " in all", x.count(2), 8 + Math.min(99, water + flow));
            }
        }
        RiversQueue first = Checks.coastWith("b95,b00;1", 94);
        checks.due("hour()", first.hour(), 1);
        checks.due("94 and 5 less 1", first.river(0, 1), 98);
        checks.due("hour()", first.hour(), 1);
        checks.due("99 at most, less 1", first.river(0, 1), 98);
        RiversQueue five = Checks.coastWith("b05,b05,b05,b05,b05;9", 99, 99, 99, 99, 99);
        checks.due("hour() of all that can stand", five.hour(), 9);
        checks.due("all that can stand, less 9", five.count(2), 5 * 99 - 9);
    }

    /** "by the ROW from the one behind the first to the last one". */
    private static void pushesGoByTheRow(Checks checks) {
        RiversQueue x = Checks.coastOf("r10,f20,f30;1");
        x.hour();
        // f1 by r0, then f2 by r0, but f2 no more by f1.
        checks.dueRow("r10,f20,f30", x, 1, 2, 0);
        RiversQueue y = Checks.coastOf("r20,o90,f30,b10;1");
        y.hour();
        // o never; f by o; b by o, which stands ahead of it by then.
        checks.dueRow("r20,o90,f30,b10", y, 0, 2, 3, 1);
        RiversQueue z = Checks.coastOf("o90,b90,b30,b40,r10;1");
        z.hour();
        checks.dueRow("an old one gives way to all", z, 1, 2, 3, 4, 0);
        z.hour();
        checks.dueRow("behind all there is no more way to give", z, 1, 2, 3, 4, 0);
    }

    /** "once each": one that pushes goes one place, the last one, too. */
    private static void eachPushesOnce(Checks checks) {
        RiversQueue last = Checks.coastOf("b90,b20,b20,b20,f90;1");
        last.hour();
        checks.dueRow("the last one goes one place", last, 0, 1, 2, 4, 3);
        last.hour();
        checks.due("and one more in the next hour", last.row(2), 4);
        RiversQueue all = Checks.coastOf("t20,t20,t20,t20,t20;1");
        all.hour();
        checks.dueRow("four push by the first", all, 1, 2, 3, 4, 0);
        RiversQueue two = Checks.coastOf("t20,t20;1");
        two.hour();
        checks.dueRow("one pushes by the first", two, 1, 0);
    }

    /** "as much WATER as BAR tells, or all that it has; if it has none then, it goes behind all others". */
    private static void theSeaTakesTheBarOrAll(Checks checks) {
        for (int bar = 1; bar <= 9; bar++) {
            for (int water = 0; water <= 9; water++) {
                RiversQueue x = Checks.coastOf("b" + water + "0,b90,b00;" + bar);
                String call = water + " by the bar " + bar;
                int much = Math.min(bar, water);
                checks.due("hour(), " + call, x.hour(), much);
                checks.due("what stands then, " + call, x.river(0, 1), water - much);
                checks.due("what the sea took, " + call, x.river(0, 4), much);
                checks.due("of all, " + call, x.count(4), much);
                checks.due("its place, " + call, x.river(0, 3), water > bar ? 0 : 2);
                checks.due("the place of the next, " + call, x.river(1, 3), water > bar ? 1 : 0);
            }
        }
    }

    private static void whoHasNoneGoesBehind(Checks checks) {
        RiversQueue x = Checks.coastOf("b30,b10,b20;3");
        checks.due("just the bar", x.hour(), 3);
        checks.dueRow("it has none then", x, 1, 2, 0);
        RiversQueue empty = Checks.coastOf("t00,t00;9");
        checks.due("hour() of no water", empty.hour(), 0);
        checks.dueRow("t pushes by t, which is sent behind", empty, 0, 1);
        RiversQueue five = Checks.coastOf("b00,b00,b00,b00,b00;9");
        five.hour();
        checks.dueRow("behind all four", five, 1, 2, 3, 4, 0);
    }

    private static void hourTellsWhatTheSeaTakes(Checks checks) {
        RiversQueue x = Checks.coastOf("b50,b10;3");
        checks.due("as much as the bar", x.hour(), 3);
        checks.dueRow("it has some then", x, 0, 1);
        checks.due("all that it has", x.hour(), 2);
        checks.dueRow("it has none then", x, 1, 0);
        checks.due("of the next", x.hour(), 1);
        checks.dueRow("it has none either", x, 0, 1);
        checks.due("of none", x.hour(), 0);
        checks.dueRow("the first goes behind all the same", x, 1, 0);
        checks.due("river(0, 4)", x.river(0, 4), 5);
        checks.due("river(1, 4)", x.river(1, 4), 1);
        checks.due("count(2)", x.count(2), 0);
        checks.due("count(3)", x.count(3), 4);
        checks.due("count(4)", x.count(4), 6);
    }

    private static void hourRefuses(Checks checks) {
        checks.dueRefused("hour()", Scene.WITHOUT_COAST, x -> x.hour(), Checks.STATE);
        checks.dueRefused("hour() of no coast", () -> Checks.pageOf("r10,f20;0"), x -> x.hour(), Checks.STATE);
        checks.dueRefused("hour() ahead of coast()", () -> Checks.pageOf("r10,f20;1"), x -> x.hour(), Checks.STATE);
    }

    /** "RAIN makes the WATER of one more by so much (99 at most)". */
    private static void rainUpTo99(Checks checks) {
        for (int water : new int[] {0, 1, 48, 49, 50, 51, 97, 98, 99}) {
            for (int much : new int[] {1, 2, 49, 50}) {
                RiversQueue x = Checks.coastWith("b00,b00;1", water);
                int want = Math.min(99, water + much);
                checks.due("rain(0, " + much + ") on " + water, x.rain(0, much), want);
                checks.due("river(0, 1) then", x.river(0, 1), want);
                checks.due("count(2) then", x.count(2), want);
            }
        }
    }

    /** "much (1 to 50)". */
    private static void rainFrom1To50(Checks checks) {
        for (int much = 1; much <= 50; much++) {
            checks.due("rain(1, " + much + ")", Checks.coastOf("b00,b00;1").rain(1, much), much);
        }
    }

    private static void rainOfOneAlone(Checks checks) {
        for (int river = 0; river < 5; river++) {
            RiversQueue x = Checks.coastOf("b15,b25,b35,b45,b55;1");
            checks.due("rain(" + river + ", 50)", x.rain(river, 50), river + 51);
            checks.dueRow("rain moves none", x, 0, 1, 2, 3, 4);
            for (int other = 0; other < 5; other++) {
                checks.due("water of " + other, x.river(other, 1), other + 1 + (other == river ? 50 : 0));
            }
            checks.due("it takes no hour", x.count(3), 0);
        }
    }

    /** "UNKNOWN; OUTSIDE", in this order. */
    private static void rainRefuses(Checks checks) {
        for (Scene scene : Scene.values()) {
            for (int river : Checks.beyond(scene.rivers())) {
                String call = scene + ": rain(" + river + ", ";
                checks.dueRefused(call + "1)", scene, x -> x.rain(river, 1), Checks.UNKNOWN);
                checks.dueRefused(call + "50)", scene, x -> x.rain(river, 50), Checks.UNKNOWN);
                checks.dueRefused(call + "0)", scene, x -> x.rain(river, 0), Checks.UNKNOWN);
                checks.dueRefused(call + "51)", scene, x -> x.rain(river, 51), Checks.UNKNOWN);
            }
        }
        for (int much : Checks.outside(1, 50)) {
            checks.dueRefused("rain(0, " + much + ")", Scene.WITH_COAST, x -> x.rain(0, much), Checks.OUTSIDE);
            checks.dueRefused("rain(4, " + much + ")", Scene.FIVE, x -> x.rain(4, much), Checks.OUTSIDE);
        }
    }

    /** "it goes behind all others". */
    private static void droughtFromEachPlace(Checks checks) {
        for (int water : new int[] {0, 9}) {
            String one = "b" + water + "0";
            for (int river = 0; river < 5; river++) {
                RiversQueue x = Checks.coastOf(String.join(",", one, one, one, one, one) + ";1");
                checks.due("drought(" + river + ") of " + water, x.drought(river), water);
                checks.due("count(2)", x.count(2), 4 * water);
                for (int place = 0; place < 4; place++) {
                    checks.due("row(" + place + ")", x.row(place), place < river ? place : place + 1);
                }
                checks.due("row(4)", x.row(4), river);
                checks.due("its place", x.river(river, 3), 4);
            }
        }
        RiversQueue two = Checks.coastOf("b10,b20;1");
        two.drought(0);
        checks.dueRow("the first of two", two, 1, 0);
        two.drought(0);
        checks.dueRow("the last of two", two, 1, 0);
    }

    /** "takes all its WATER", and tells "how much WATER there was"; what the sea took stays. */
    private static void droughtTakesAll(Checks checks) {
        RiversQueue x = Checks.coastOf("b35,b90,b10;1");
        x.hour();
        checks.due("drought(0)", x.drought(0), 7);
        checks.dueRow("drought(0)", x, 1, 2, 0);
        checks.due("river(0, 1)", x.river(0, 1), 0);
        checks.due("river(0, 4)", x.river(0, 4), 1);
        checks.due("count(2)", x.count(2), 10);
        checks.due("count(3)", x.count(3), 1);
        checks.due("count(4)", x.count(4), 1);
        checks.due("drought(2)", x.drought(2), 1);
        checks.dueRow("drought(2)", x, 1, 0, 2);
        checks.due("drought(0) of none", x.drought(0), 0);
        checks.dueRow("it goes behind all the same", x, 1, 2, 0);
        checks.due("drought(1) of 99", Checks.coastWith("b00,b00;1", 0, 99).drought(1), 99);
    }

    private static void droughtRefuses(Checks checks) {
        for (Scene scene : Scene.values()) {
            for (int river : Checks.beyond(scene.rivers())) {
                checks.dueRefused(scene + ": drought(" + river + ")", scene, x -> x.drought(river), Checks.UNKNOWN);
            }
        }
    }
}
