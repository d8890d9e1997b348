/** Promises 14 and 15: see, forget; and of promise 6 HOW MUCH and LOOK. */
public final class SeenTest {
    public static void main(String[] args) {
        Checks checks = new Checks("SeenTest");
        howMuchByWhatIsSeen(checks);
        ofTheOthersToo(checks);
        fromNowAsItIs(checks);
        allTwelveHours(checks);
        lookForOne(checks);
        seeRefuses(checks);
        forgets(checks);
        checks.end();
    }

    /** Of "b00,b90;1" with w in 0, the sea takes of 0 in the hours 1 to w, of 1 in the nine behind. */
    private static RiversQueue brooks() {
        return Checks.coastOf("b00,b90;1");
    }

    private static int bitsOf(int least, int most) {
        int bits = 0;
        for (int bit = least; bit <= most; bit++) {
            bits |= 1 << bit;
        }
        return bits;
    }

    private static void howMuchByWhatIsSeen(Checks checks) {
        RiversQueue x = brooks();
        checks.due("nothing seen", x.river(0, 6), bitsOf(0, 9));
        checks.due("nothing seen", x.river(0, 7), 5);
        checks.due("see(3, 0, true)", x.see(3, 0, true), 1);
        checks.due("3 to 9", x.river(0, 6), bitsOf(3, 9));
        checks.due("see(6, 0, false)", x.see(6, 0, false), 2);
        checks.due("3 to 5", x.river(0, 6), bitsOf(3, 5));
        checks.due("4 and 5 are like: the least", x.river(0, 7), 4);
        checks.due("see(4, 0, true)", x.see(4, 0, true), 3);
        checks.due("4 or 5", x.river(0, 6), bitsOf(4, 5));
        checks.due("4 or 5", x.river(0, 7), 5);
        checks.due("see(5, 0, false)", x.see(5, 0, false), 4);
        checks.due("4", x.river(0, 6), 1 << 4);
        checks.due("one is left wherever one looks", x.river(0, 7), 1);
        checks.due("see(1, 0, false)", x.see(1, 0, false), 5);
        checks.due("none", x.river(0, 6), 0);
        checks.due("none to look for", x.river(0, 7), Checks.NONE);
        checks.due("see(1, 0, false) again", x.see(1, 0, false), 6);
        checks.due("count(5)", x.count(5), 6);
        RiversQueue y = brooks();
        y.see(1, 0, false);
        checks.due("no water is nothing taken", y.river(0, 6), 1);
    }

    private static void ofTheOthersToo(Checks checks) {
        RiversQueue x = brooks();
        x.see(5, 1, true);
        // 0 went behind by hour 4 at the latest, or in hour 1, with none.
        checks.due("1 tells of 0", x.river(0, 6), bitsOf(0, 4));
        // 0 has none: 1 is first from hour 2 on, as long as it has some.
        checks.due("1 tells of 1", x.river(1, 6), bitsOf(4, 9));
        x.rain(0, 2);
        checks.due("all else as it is: 0 has 2", x.river(1, 6), bitsOf(3, 9));
        checks.due("but what 0 has itself", x.river(0, 6), bitsOf(0, 4));
        x.rain(0, 50);
        checks.due("52 ahead", x.river(1, 6), 0);
        checks.due("52 as 0 to 9", x.river(0, 6), bitsOf(0, 4));
        checks.due("52 ahead: no look", x.river(1, 7), Checks.NONE);
    }

    private static void fromNowAsItIs(Checks checks) {
        RiversQueue x = Checks.coastOf("b20,b90;1");
        x.see(1, 0, true);
        checks.due("0 is first", x.river(0, 6), bitsOf(1, 9));
        x.hour();
        checks.due("0 still is first", x.river(0, 6), bitsOf(1, 9));
        x.hour();
        checks.due("0 is behind", x.river(0, 6), 0);
        x.drought(1);
        checks.due("0 is first again", x.river(0, 6), bitsOf(1, 9));
    }

    private static void allTwelveHours(Checks checks) {
        // With none, 0 has one in hour 1, goes behind, and is back from hour 3 on.
        RiversQueue x = Checks.coastOf("b01,b00;1");
        x.see(12, 0, true);
        checks.due("hour 12, taken", x.river(0, 6), bitsOf(0, 9));
        x.see(2, 0, false);
        checks.due("hour 2, not taken", x.river(0, 6), 1);
        RiversQueue y = Checks.coastOf("b01,b00;1");
        y.see(12, 0, false);
        checks.due("hour 12, not taken", y.river(0, 6), 0);
    }

    private static void lookForOne(Checks checks) {
        RiversQueue x = Checks.coastOf("b20,b00,b00;1");
        // 1 with w: hours 3 to w + 2.
        checks.due("look for 1", x.river(1, 7), 7);
        // 2 with w: 0 ahead to hour 2, 1 goes behind in hour 3.
        checks.due("look for 2", x.river(2, 7), 8);
        // With 7 to 9, the flood pushes in at once, and stays first for seven hours; else it never does.
        checks.due("look for the flood", Checks.coastOf("b42,f00;1").river(1, 7), 1);
        RiversQueue late = Checks.coastOf("b90,b00;1");
        late.rain(0, 3);
        // 12 hours are gone before it is first: each look leaves all ten.
        checks.due("no hour tells: the least", late.river(1, 7), 1);
        RiversQueue at12 = Checks.coastOf("b90,b00;1");
        at12.rain(0, 2);
        checks.due("hour 12 tells a little", at12.river(1, 7), 12);
    }

    private static void seeRefuses(Checks checks) {
        RiversQueue x = brooks();
        long h = x.digest();
        checks.dueUnchanged("see(0, 0, true)", x, x.see(0, 0, true), Checks.OUTSIDE, h);
        checks.dueUnchanged("see(13, 0, true)", x, x.see(13, 0, true), Checks.OUTSIDE, h);
        checks.dueUnchanged("see(0, 2, true)", x, x.see(0, 2, true), Checks.OUTSIDE, h);
        checks.dueUnchanged("see(1, 2, true)", x, x.see(1, 2, true), Checks.UNKNOWN, h);
        for (int wild : Checks.WILD) {
            checks.dueUnchanged("see(" + wild + ", 0, true)", x, x.see(wild, 0, true), Checks.OUTSIDE, h);
            checks.dueUnchanged("see(1, " + wild + ", true)", x, x.see(1, wild, true), Checks.UNKNOWN, h);
        }
        for (int i = 1; i <= 6; i++) {
            checks.due("see(" + i + ", 1, false)", x.see(i, 1, false), i);
        }
        h = x.digest();
        checks.dueUnchanged("the 7th", x, x.see(7, 1, false), Checks.FULL, h);
        checks.dueUnchanged("the 7th, river 2", x, x.see(7, 2, false), Checks.UNKNOWN, h);
        checks.dueUnchanged("the 7th, hour 13", x, x.see(13, 1, false), Checks.OUTSIDE, h);
        checks.due("count(5)", x.count(5), 6);
    }

    private static void forgets(Checks checks) {
        RiversQueue x = brooks();
        long h = x.digest();
        checks.due("forget() of nothing", x.forget(), 0);
        x.see(1, 0, true);
        x.see(1, 0, false);
        checks.due("both can't be", x.river(0, 6), 0);
        checks.due("forget()", x.forget(), 2);
        checks.due("count(5)", x.count(5), 0);
        checks.due("all are possible again", x.river(0, 6), bitsOf(0, 9));
        checks.due("digest()", x.digest(), h);
        checks.due("forget() again", x.forget(), 0);
        checks.due("see() again", x.see(3, 0, true), 1);
    }
}
