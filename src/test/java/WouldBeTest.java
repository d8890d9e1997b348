import java.util.ArrayList;
import java.util.List;

/** Promises 12 and 13: wide, best; and of promise 6 WAITS. */
public final class WouldBeTest {
    private static final String[] COASTS = {"b00,b00;1", "r31,f82;4", "t95,t95;9", "o12,b34,r50;3", "r25,f14,t03,o92;5",
        "r10,f21,b32,o43,t54;7", "t11,r91,f05,b30,o25;2", "o90,o91,o92,o93,o94;9"};

    public static void main(String[] args) {
        Checks checks = new Checks("WouldBeTest");
        waits(checks);
        waitsFromHour1To60(checks);
        waitsOfAnyWater(checks);
        waitsAsTheyWouldGo(checks);
        wideTells(checks);
        wideTellsTheLeastHour(checks);
        wideAsTheyWouldGo(checks);
        wideRefuses(checks);
        bestTells(checks);
        bestIsTheLastOrder(checks);
        bestTakesTheFirstOfLikeOnes(checks);
        bestAsTheyWouldGo(checks);
        bestOfNoSuchPlace(checks);
        bestOutside(checks);
        bestIsDone30Times(checks);
        nothingChanges(checks);
        checks.end();
    }

    private static void waits(Checks checks) {
        RiversQueue x = Checks.coastOf("b30,b10,b00,o10;1");
        checks.due("waits of the first", x.river(0, 5), 1);
        checks.due("waits behind three hours", x.river(1, 5), 4);
        checks.due("waits of no water", x.river(2, 5), Checks.NONE);
        // 2 goes behind in hour 5; then the old one, which is first.
        checks.due("waits of the old one", x.river(3, 5), 6);
        x.hour();
        checks.due("an hour on", x.river(1, 5), 3);
        RiversQueue y = Checks.coastOf("o10,r90;5");
        checks.due("waits of one that pushes", y.river(1, 5), 1);
    }

    /** "behind how many HOURS (1 to 60 ..) .. none". */
    private static void waitsFromHour1To60(Checks checks) {
        for (int ahead : new int[] {1, 2, 11, 12, 13, 58, 59}) {
            RiversQueue x = Checks.coastWith("b00,b10;1", ahead);
            checks.due("behind " + ahead + " hours of another", x.river(1, 5), ahead + 1);
            checks.due("the other", x.river(0, 5), 1);
        }
        for (int ahead : new int[] {60, 61, 99}) {
            RiversQueue x = Checks.coastWith("b00,b10;1", ahead);
            checks.due("behind " + ahead + " hours of another", x.river(1, 5), Checks.NONE);
        }
        RiversQueue x = Checks.coastWith("b00,b10;1", 60);
        x.hour();
        checks.due("from now, which is an hour on", x.river(1, 5), 60);
    }

    /** "first takes any WATER of it": to stand first with none is not enough. */
    private static void waitsOfAnyWater(Checks checks) {
        RiversQueue x = Checks.coastOf("b00,b10;1");
        // 0 goes behind in hour 1, 1 in hour 2, and so on: 0 never has any.
        checks.due("the first with none", x.river(0, 5), Checks.NONE);
        checks.due("the next", x.river(1, 5), 2);
        RiversQueue y = Checks.coastOf("b01,b10;9");
        checks.due("what has just come is taken", y.river(0, 5), 1);
    }

    /** "as they would go": by going there, with another object. */
    private static void waitsAsTheyWouldGo(Checks checks) {
        for (String text : COASTS) {
            RiversQueue x = Checks.coastOf(text);
            for (int river = 0; river < x.count(0); river++) {
                RiversQueue goes = Checks.coastOf(text);
                int waits = Checks.NONE;
                for (int hour = 1; hour <= 60 && waits == Checks.NONE; hour++) {
                    goes.hour();
                    waits = goes.river(river, 4) > 0 ? hour : Checks.NONE;
                }
                checks.due("waits of " + river + " in " + text, x.river(river, 5), waits);
            }
        }
    }

    private static void wideTells(Checks checks) {
        RiversQueue x = Checks.coastOf("r11,r01;1");
        // Two flow in by the hour, and one goes: 2, 3, 4 ..
        for (int hours : new int[] {1, 2, 10, 12, 59, 60}) {
            checks.due("wide(" + hours + ", 0)", x.wide(hours, 0), hours + 1);
            checks.due("wide(" + hours + ", 1)", x.wide(hours, 1), hours);
        }
        RiversQueue y = Checks.coastOf("b30,b30;2");
        checks.due("what stands now is not counted", y.wide(12, 0), 4);
        checks.due("it shrinks", y.wide(12, 1), 1);
    }

    /** "behind which one (the least)". */
    private static void wideTellsTheLeastHour(Checks checks) {
        RiversQueue none = Checks.coastOf("t00,t00;9");
        checks.due("wide(60, 0) of no water", none.wide(60, 0), 0);
        checks.due("wide(60, 1) of no water", none.wide(60, 1), 1);
        RiversQueue even = Checks.coastOf("b91,b00;1");
        checks.due("wide(60, 0) of as much in as out", even.wide(60, 0), 9);
        checks.due("wide(60, 1) of as much in as out", even.wide(60, 1), 1);
        RiversQueue full = Checks.coastWith("b05,b00;1", 91);
        // 91 grows by 5 and loses 1: 95, 98, then 99 at most less 1.
        checks.due("wide(60, 0) of one that is full", full.wide(60, 0), 98);
        checks.due("wide(60, 1) of one that is full", full.wide(60, 1), 2);
        checks.due("wide(1, 0) of one that is full", full.wide(1, 0), 95);
    }

    /** "the most WATER that stands in all together behind one of these": by going there. */
    private static void wideAsTheyWouldGo(Checks checks) {
        for (String text : COASTS) {
            RiversQueue x = Checks.coastOf(text);
            RiversQueue goes = Checks.coastOf(text);
            int most = -1;
            int behind = 0;
            for (int hours = 1; hours <= 60; hours++) {
                goes.hour();
                if (goes.count(2) > most) {
                    most = goes.count(2);
                    behind = hours;
                }
                checks.due("wide(" + hours + ", 0) of " + text, x.wide(hours, 0), most);
                checks.due("wide(" + hours + ", 1) of " + text, x.wide(hours, 1), behind);
            }
        }
    }

    /** "hours (1 to 60), what", ahead of "STATE: no COAST". */
    private static void wideRefuses(Checks checks) {
        for (int hours : Checks.outside(1, 60)) {
            checks.dueRefused("wide(" + hours + ", 0)", Scene.values(), x -> x.wide(hours, 0), Checks.OUTSIDE);
            checks.dueRefused("wide(" + hours + ", 1)", Scene.values(), x -> x.wide(hours, 1), Checks.OUTSIDE);
            checks.dueRefused("wide(" + hours + ", 2)", Scene.values(), x -> x.wide(hours, 2), Checks.OUTSIDE);
        }
        for (int what : Checks.outside(0, 1)) {
            checks.dueRefused("wide(1, " + what + ")", Scene.values(), x -> x.wide(1, what), Checks.OUTSIDE);
            checks.dueRefused("wide(60, " + what + ")", Scene.values(), x -> x.wide(60, what), Checks.OUTSIDE);
        }
        for (int what = 0; what <= 1; what++) {
            int told = what;
            checks.dueRefused("wide(1, " + what + ")", Scene.WITHOUT_COAST, x -> x.wide(1, told), Checks.STATE);
            checks.dueRefused("wide(60, " + what + ")", Scene.WITHOUT_COAST, x -> x.wide(60, told), Checks.STATE);
        }
    }

    private static void bestTells(Checks checks) {
        // Each in turn loses all: in hour 10 the second one, and one hour's flow of the first stands then.
        dueBest(checks, "b22,b11;9", 1, 1, 0);
        dueBest(checks, "r00,b31;1", 3, 1, 0);
        dueBest(checks, "b02,r81,b70;9", 2, 1, 2, 0);
        dueBest(checks, "b20,f82,b51;7", 1, 2, 0, 1);
    }

    /** The order behind all others by numbers, of the fewest and of the most rivers. */
    private static void bestIsTheLastOrder(Checks checks) {
        dueBest(checks, "o32,b00;7", 0, 1, 0);
        dueBest(checks, "f62,f00,o33;9", 2, 2, 1, 0);
        dueBest(checks, "r22,t05,o50,o81;8", 22, 3, 2, 1, 0);
        dueBest(checks, "r91,b72,t30,o15,o32;8", 53, 4, 3, 2, 1, 0);
    }

    /** "of like ones the first by numbers". */
    private static void bestTakesTheFirstOfLikeOnes(Checks checks) {
        dueBest(checks, "b30,b30,b30;2", 0, 0, 1, 2);
        dueBest(checks, "r00,r00,r00,r00,r00;9", 0, 0, 1, 2, 3, 4);
        dueBest(checks, "b60,b61,b91;6", 1, 1, 0, 2);
        RiversQueue x = Checks.coastOf("b30,b30,b30;2");
        x.drought(0);
        checks.due("the order is not told by the row: best(10)", x.best(10), 0);
    }

    private static void dueBest(Checks checks, String text, int least, int... order) {
        RiversQueue x = Checks.coastOf(text);
        checks.due("best(0) of " + text, x.best(0), least);
        for (int place = 0; place < order.length; place++) {
            checks.due("best(" + (10 + place) + ") of " + text, x.best(10 + place), order[place]);
        }
        checks.due("count(8)", x.count(8), 1 + order.length);
    }

    /** "behind 10 HOURS": by going there, with an object whose coast is written in each order. */
    private static void bestAsTheyWouldGo(Checks checks) {
        for (String text : COASTS) {
            String[] halves = text.split(";");
            String[] rivers = halves[0].split(",");
            List<int[]> orders = new ArrayList<>();
            addOrders(orders, new int[rivers.length], 0);
            int least = Integer.MAX_VALUE;
            int[] best = null;
            for (int[] order : orders) {
                String[] row = new String[order.length];
                for (int place = 0; place < order.length; place++) {
                    row[place] = rivers[order[place]];
                }
                int stands = standsBehindTen(String.join(",", row) + ";" + halves[1]);
                if (stands < least) {
                    least = stands;
                    best = order;
                }
            }
            dueBest(checks, text, least, best);
        }
    }

    /** All orders, the first by numbers first. */
    private static void addOrders(List<int[]> orders, int[] begun, int places) {
        if (places == begun.length) {
            orders.add(begun.clone());
            return;
        }
        for (int river = 0; river < begun.length; river++) {
            boolean stands = false;
            for (int place = 0; place < places; place++) {
                stands |= begun[place] == river;
            }
            if (!stands) {
                begun[places] = river;
                addOrders(orders, begun, places + 1);
            }
        }
    }

    private static int standsBehindTen(String text) {
        RiversQueue x = Checks.coastOf(text);
        for (int hour = 1; hour <= 10; hour++) {
            x.hour();
        }
        return x.count(2);
    }

    /** "10 to 14 the so-manieth in the ROW (NONE: there is none)", which is done, and counted. */
    private static void bestOfNoSuchPlace(Checks checks) {
        String text = "b10,b10,b10,b10,b10";
        for (int rivers = 2; rivers <= 5; rivers++) {
            RiversQueue x = Checks.coastOf(text.substring(0, 4 * rivers - 1) + ";1");
            for (int place = 0; place < 5; place++) {
                int want = place < rivers ? place : Checks.NONE;
                checks.due("best(" + (10 + place) + ") of " + rivers, x.best(10 + place), want);
                checks.due("count(8)", x.count(8), place + 1);
            }
        }
    }

    /** "OUTSIDE" ahead of "STATE": in all scenes. */
    private static void bestOutside(Checks checks) {
        for (int what : Checks.outside(1, 14)) {
            if (what != 0) {
                checks.dueRefused("best(" + what + ")", Scene.values(), x -> x.best(what), Checks.OUTSIDE);
            }
        }
        for (int what = 1; what <= 9; what++) {
            int told = what;
            checks.dueRefused("best(" + what + ")", Scene.values(), x -> x.best(told), Checks.OUTSIDE);
        }
    }

    /** "no COAST, or best() was done 30 times in all". */
    private static void bestIsDone30Times(Checks checks) {
        for (int what : new int[] {0, 10, 14}) {
            checks.dueRefused("best(" + what + ")", Scene.WITHOUT_COAST, x -> x.best(what), Checks.STATE);
            checks.dueRefused("the 31st best(" + what + ")", Scene.FULL, x -> x.best(what), Checks.STATE);
        }
        RiversQueue x = Checks.coastOf("b30,b10;1");
        x.image();
        for (int i = 1; i <= 15; i++) {
            checks.due("best() of " + i, x.best(i % 2 == 0 ? 0 : 14), i % 2 == 0 ? 0 : Checks.NONE);
            checks.due("count(8)", x.count(8), i);
            checks.due("best() that is refused", x.best(15), Checks.OUTSIDE);
            x.restore();
        }
        Checks.write(x, "b30,b10;1");
        x.coast();
        for (int i = 16; i <= 30; i++) {
            checks.due("best() of " + i, x.best(10), 0);
            checks.due("count(8)", x.count(8), i);
        }
        checks.due("the 31st", x.best(10), Checks.STATE);
        Checks.write(x, "b30,b10;1");
        x.coast();
        checks.due("another coast gives no more", x.best(0), Checks.STATE);
        checks.due("count(8) then", x.count(8), 30);
    }

    private static void nothingChanges(Checks checks) {
        RiversQueue x = Scene.FIVE.get();
        RiversQueue twin = Scene.FIVE.get();
        x.wide(60, 0);
        x.wide(60, 1);
        Told.by(x).dueAs(checks, "wide() changes nothing", Told.by(twin));
        x.best(12);
        twin.best(0);
        Told.by(x).dueAs(checks, "best() changes its count alone", Told.by(twin));
        checks.due("the image stands", x.restore(), twin.restore());
        Told.by(x).dueAs(checks, "restored behind best()", Told.by(twin));
    }
}
