/** Promises 14 and 15: see, forget; and of promise 6 HOW MUCH and LOOK. */
public final class SeenTest {
    public static void main(String[] args) {
        Checks checks = new Checks("SeenTest");
        howMuchByWhatIsSeen(checks);
        howMuchFrom0To9(checks);
        ofTheOthersToo(checks);
        takenIsOfAnyWater(checks);
        fromNowAsItIs(checks);
        eachHourFrom1To12(checks);
        eachOfSixCounts(checks);
        lookForOne(checks);
        lookFromHour1To12(checks);
        lookForNone(checks);
        sixAtMost(checks);
        seeOutside(checks);
        seeUnknown(checks);
        seeFull(checks);
        forgets(checks);
        forgetsWhatIsSeenAlone(checks);
        checks.end();
    }

    /** Of "b00,b90;1" with w in 0, the sea takes of 0 in the hours 1 to w, of 1 in the nine behind. */
    private static RiversQueue brooks() {
        return Checks.coastOf("b00,b90;1");
    }

    private static int bitsOf(int least, int most) {
        int bits = 0;
        for (int bit = least; bit <= most; bit++) {
            bits |= 1 << bit;
        }
        return bits;
    }

    private static void howMuchByWhatIsSeen(Checks checks) {
        RiversQueue x = brooks();
        checks.due("nothing seen", x.river(0, 6), bitsOf(0, 9));
        checks.due("nothing seen", x.river(0, 7), 5);
        checks.due("see(3, 0, true)", x.see(3, 0, true), 1);
        checks.due("3 to 9", x.river(0, 6), bitsOf(3, 9));
        checks.due("see(6, 0, false)", x.see(6, 0, false), 2);
        checks.due("3 to 5", x.river(0, 6), bitsOf(3, 5));
        checks.due("4 and 5 are like: the least", x.river(0, 7), 4);
        checks.due("see(4, 0, true)", x.see(4, 0, true), 3);
        checks.due("4 or 5", x.river(0, 6), bitsOf(4, 5));
        checks.due("4 or 5", x.river(0, 7), 5);
        checks.due("see(5, 0, false)", x.see(5, 0, false), 4);
        checks.due("4", x.river(0, 6), 1 << 4);
        checks.due("one is left wherever one looks", x.river(0, 7), 1);
        checks.due("see(1, 0, false)", x.see(1, 0, false), 5);
        checks.due("none", x.river(0, 6), 0);
        checks.due("none to look for", x.river(0, 7), Checks.NONE);
        checks.due("see(1, 0, false) again", x.see(1, 0, false), 6);
        checks.due("count(5)", x.count(5), 6);
    }

    /** "HOW MUCH WATER one can have now (0 to 9)", whatever it has. */
    private static void howMuchFrom0To9(Checks checks) {
        RiversQueue none = brooks();
        none.see(1, 0, false);
        checks.due("0 alone", none.river(0, 6), 1);
        RiversQueue most = brooks();
        most.see(9, 0, true);
        checks.due("9 alone", most.river(0, 6), 1 << 9);
        RiversQueue more = brooks();
        more.rain(0, 50);
        checks.due("all of 0 to 9, though it has 50", more.river(0, 6), bitsOf(0, 9));
        more.see(10, 0, true);
        checks.due("not 10, nor the 50 that it has", more.river(0, 6), 0);
        checks.due("it still has 50", more.river(0, 1), 50);
    }

    /** "all else as it is". */
    private static void ofTheOthersToo(Checks checks) {
        RiversQueue x = brooks();
        x.see(5, 1, true);
        // 0 went behind by hour 4 at the latest, or in hour 1, with none.
        checks.due("1 tells of 0", x.river(0, 6), bitsOf(0, 4));
        // 0 has none: 1 is first from hour 2 on, as long as it has some.
        checks.due("1 tells of 1", x.river(1, 6), bitsOf(4, 9));
        x.rain(0, 2);
        checks.due("all else as it is: 0 has 2", x.river(1, 6), bitsOf(3, 9));
        checks.due("but what 0 has itself", x.river(0, 6), bitsOf(0, 4));
        x.rain(0, 50);
        checks.due("52 ahead", x.river(1, 6), 0);
        checks.due("52 as 0 to 9", x.river(0, 6), bitsOf(0, 4));
        checks.due("52 ahead: no look", x.river(1, 7), Checks.NONE);
        RiversQueue five = Checks.coastOf("b10,b10,b10,b10,b00;1");
        five.see(7, 4, true);
        checks.due("the last of five, from hour 5 on", five.river(4, 6), bitsOf(3, 9));
        checks.due("the first of five", five.river(0, 6), 0);
    }

    /** To stand first with none is not that the sea takes of it. */
    private static void takenIsOfAnyWater(Checks checks) {
        RiversQueue x = brooks();
        x.see(1, 0, true);
        checks.due("taken", x.river(0, 6), bitsOf(1, 9));
        RiversQueue y = brooks();
        y.see(1, 0, false);
        checks.due("not taken", y.river(0, 6), 1);
    }

    /** "from now as it is whenever that is asked". */
    private static void fromNowAsItIs(Checks checks) {
        RiversQueue x = Checks.coastOf("b20,b90;1");
        x.see(1, 0, true);
        checks.due("0 is first", x.river(0, 6), bitsOf(1, 9));
        x.hour();
        checks.due("0 still is first", x.river(0, 6), bitsOf(1, 9));
        x.hour();
        checks.due("0 is behind", x.river(0, 6), 0);
        x.drought(1);
        checks.due("0 is first again", x.river(0, 6), bitsOf(1, 9));
    }

    /** "in an HOUR so many HOURS from now (1 to 12)": of "b00,b00" with so much in 0, 1 is first behind it. */
    private static void eachHourFrom1To12(Checks checks) {
        for (int hour = 1; hour <= 9; hour++) {
            RiversQueue x = brooks();
            checks.due("see(" + hour + ", 0, true)", x.see(hour, 0, true), 1);
            checks.due("taken in hour " + hour, x.river(0, 6), bitsOf(hour, 9));
            RiversQueue y = brooks();
            checks.due("see(" + hour + ", 0, false)", y.see(hour, 0, false), 1);
            checks.due("not taken in hour " + hour, y.river(0, 6), bitsOf(0, hour - 1));
        }
        for (int hour = 10; hour <= 12; hour++) {
            // With three ahead, 1 has its turn in the hours 4 to w + 3.
            RiversQueue x = Checks.coastOf("b30,b00;1");
            checks.due("see(" + hour + ", 1, true)", x.see(hour, 1, true), 1);
            checks.due("taken in hour " + hour, x.river(1, 6), bitsOf(hour - 3, 9));
            RiversQueue y = Checks.coastOf("b30,b00;1");
            checks.due("see(" + hour + ", 1, false)", y.see(hour, 1, false), 1);
            checks.due("not taken in hour " + hour, y.river(1, 6), bitsOf(0, hour - 4));
        }
    }

    /** "so that all that is SEEN would be so": the first of six and the last one, too. */
    private static void eachOfSixCounts(Checks checks) {
        for (int telling = 1; telling <= 6; telling++) {
            RiversQueue x = brooks();
            for (int i = 1; i <= 6; i++) {
                if (i == telling) {
                    x.see(4, 0, true);
                } else {
                    x.see(12, 0, false);
                }
            }
            checks.due("the " + telling + "th of six tells", x.river(0, 6), bitsOf(4, 9));
            checks.due("LOOK by the " + telling + "th of six", x.river(0, 7), 7);
        }
    }

    private static void lookForOne(Checks checks) {
        RiversQueue x = Checks.coastOf("b20,b00,b00;1");
        // 1 with w: hours 3 to w + 2.
        checks.due("look for 1", x.river(1, 7), 7);
        // 2 with w: 0 ahead to hour 2, 1 goes behind in hour 3.
        checks.due("look for 2", x.river(2, 7), 8);
        // With 7 to 9, the flood pushes in at once, and stays first for seven hours; else it never does.
        checks.due("look for the flood", Checks.coastOf("b42,f00;1").river(1, 7), 1);
    }

    /** "in which HOUR (1 to 12) to look"; "of like ones the least". */
    private static void lookFromHour1To12(Checks checks) {
        for (int ahead = 1; ahead <= 11; ahead++) {
            // 1 with w has its turn in the hours ahead + 1 to ahead + w: the fifth parts the ten best.
            RiversQueue x = Checks.coastWith("b00,b00;1", ahead);
            checks.due("look behind " + ahead, x.river(1, 7), Math.min(12, ahead + 5));
        }
        // 12 hours are gone before it is first: each look leaves all ten.
        checks.due("no hour tells: the least", Checks.coastWith("b00,b00;1", 12).river(1, 7), 1);
        // Hour 1 tells whether it is 0, as no later hour does.
        checks.due("hour 1 tells", Checks.coastOf("b00,b90;9").river(0, 7), 1);
    }

    /** "none, if there are none". */
    private static void lookForNone(Checks checks) {
        RiversQueue x = brooks();
        x.see(1, 0, true);
        x.see(1, 0, false);
        checks.due("no water is possible", x.river(0, 6), 0);
        checks.due("no look", x.river(0, 7), Checks.NONE);
        x.forget();
        checks.due("a look again", x.river(0, 7), 5);
    }

    /** "SEEN (6 at most)". */
    private static void sixAtMost(Checks checks) {
        RiversQueue x = brooks();
        for (int i = 1; i <= 6; i++) {
            checks.due("see(), the " + i + "th", x.see(i, 1, false), i);
            checks.due("count(5)", x.count(5), i);
        }
        checks.due("see(), the 7th", x.see(7, 1, false), Checks.FULL);
        checks.due("count(5)", x.count(5), 6);
        x.forget();
        for (int i = 1; i <= 6; i++) {
            checks.due("see() after forget(), the " + i + "th", x.see(12, 0, true), i);
        }
        checks.due("see() after forget(), the 7th", x.see(12, 0, true), Checks.FULL);
    }

    /** "OUTSIDE: hour (1 to 12)", ahead of UNKNOWN and FULL. */
    private static void seeOutside(Checks checks) {
        for (int hour : Checks.outside(1, 12)) {
            String call = "see(" + hour + ", ";
            checks.dueRefused(call + "0, true)", Scene.values(), x -> x.see(hour, 0, true), Checks.OUTSIDE);
            checks.dueRefused(call + "5, false)", Scene.values(), x -> x.see(hour, 5, false), Checks.OUTSIDE);
            checks.dueRefused(call + "-1, true)", Scene.values(), x -> x.see(hour, -1, true), Checks.OUTSIDE);
        }
    }

    /** "UNKNOWN: river", ahead of FULL. */
    private static void seeUnknown(Checks checks) {
        for (Scene scene : Scene.values()) {
            for (int river : Checks.beyond(scene.rivers())) {
                String call = scene + ": see(1 or 12, " + river + ", ";
                checks.dueRefused(call + "true)", scene, x -> x.see(1, river, true), Checks.UNKNOWN);
                checks.dueRefused(call + "false)", scene, x -> x.see(12, river, false), Checks.UNKNOWN);
            }
        }
    }

    private static void seeFull(Checks checks) {
        for (int river = 0; river < 5; river++) {
            int told = river;
            checks.dueRefused("the 7th, see(1, " + river + ", true)", Scene.FULL, x -> x.see(1, told, true),
                Checks.FULL);
            checks.dueRefused("the 7th, see(12, " + river + ", false)", Scene.FULL, x -> x.see(12, told, false),
                Checks.FULL);
        }
    }

    /** "Nothing is SEEN any more: how much was." */
    private static void forgets(Checks checks) {
        for (int many = 0; many <= 6; many++) {
            RiversQueue x = brooks();
            Told before = Told.by(x);
            for (int i = 1; i <= many; i++) {
                x.see(1, 0, true);
            }
            checks.due("forget() of " + many, x.forget(), many);
            Told.by(x).dueAs(checks, "forget() of " + many, before);
            checks.due("forget() again", x.forget(), 0);
            checks.due("see() again", x.see(3, 0, true), 1);
        }
    }

    private static void forgetsWhatIsSeenAlone(Checks checks) {
        RiversQueue x = Scene.FULL.get();
        RiversQueue twin = Scene.FULL.get();
        checks.due("forget() of a full one", x.forget(), 6);
        for (int what = 0; what <= 8; what++) {
            checks.due("count(" + what + ")", x.count(what), what == 5 ? 0 : twin.count(what));
        }
        checks.due("what the image keeps stands", x.restore(), twin.restore());
        Told.by(x).dueAs(checks, "forgotten and restored", Told.by(twin));
    }
}
