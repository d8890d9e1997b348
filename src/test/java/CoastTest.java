/** Promises 5 to 8: coast, river (what is read), as, row. */
public final class CoastTest {
    public static void main(String[] args) {
        Checks checks = new Checks("CoastTest");
        coastReads(checks);
        coastRefuses(checks);
        anotherCoastEndsAllThatWas(checks);
        riverTells(checks);
        riverRefuses(checks);
        asKinds(checks);
        rowTells(checks);
        checks.end();
    }

    private static void coastReads(Checks checks) {
        String[] texts = {"r00,f95;1", "b10,b10,b10;9", "o12,t34,r50,f61;4", "r10,f21,b32,o43,t54;7"};
        for (int i = 0; i < texts.length; i++) {
            RiversQueue x = new RiversQueue();
            Checks.write(x, texts[i]);
            checks.due("coast() of " + texts[i], x.coast(), i + 2);
            checks.due("count(0) of " + texts[i], x.count(0), i + 2);
            checks.due("count(1) of " + texts[i], x.count(1), texts[i].charAt(texts[i].length() - 1) - '0');
            checks.due("the page is empty then", x.count(6), 0);
            checks.due("coast() of an empty page", x.coast(), Checks.STATE);
            checks.due("coast() was read once", x.count(7), 1);
        }
    }

    private static void coastRefuses(Checks checks) {
        String[] texts = {"", "r", "r10", "r10,", "r10;1", "r10,f20", "r10,f20;", "r10,f20;0", "r10,f20;10",
            "r10,f20;1;", "r16,f20;1", "r10,f20,;1", "r10,f20,b10,o10,t10,r10;", "x10,f20;1", "r10,f20 ;1"};
        for (String text : texts) {
            RiversQueue x = new RiversQueue();
            Checks.write(x, text);
            long h = x.digest();
            checks.dueUnchanged("coast() of \"" + text + "\"", x, x.coast(), Checks.STATE, h);
            checks.due("the page stands", x.count(6), text.length());
        }
        RiversQueue x = Checks.coastOf("r10,f20;1");
        x.hour();
        x.see(1, 0, true);
        x.image();
        Checks.write(x, "r10,f20;0");
        long h = x.digest();
        checks.dueUnchanged("coast() of no coast", x, x.coast(), Checks.STATE, h);
        checks.due("the old coast goes on", x.count(3), 1);
        checks.due("its image is kept", x.restore(), 1);
    }

    private static void anotherCoastEndsAllThatWas(Checks checks) {
        RiversQueue x = Checks.coastOf("r31,f82,t11;2");
        x.hour();
        x.hour();
        x.rain(0, 7);
        x.see(1, 0, true);
        x.image();
        x.best(0);
        Checks.write(x, "b40,o52;3");
        checks.due("coast() of another", x.coast(), 2);
        int[] counts = {2, 3, 9, 0, 0, 0, 0, 2, 1};
        for (int what = 0; what < counts.length; what++) {
            checks.due("another coast: count(" + what + ")", x.count(what), counts[what]);
        }
        checks.due("another coast: restore()", x.restore(), Checks.STATE);
        checks.dueRow("another coast", x, 0, 1);
        checks.due("another coast: river(0, 4)", x.river(0, 4), 0);
        checks.due("another coast: river(2, 0)", x.river(2, 0), Checks.UNKNOWN);
    }

    private static void riverTells(Checks checks) {
        RiversQueue x = Checks.coastOf("r10,f21,b32,o43,t54;7");
        for (int river = 0; river < 5; river++) {
            checks.due("river(" + river + ", 0)", x.river(river, 0), river);
            checks.due("river(" + river + ", 1)", x.river(river, 1), river + 1);
            checks.due("river(" + river + ", 2)", x.river(river, 2), river);
            checks.due("river(" + river + ", 3)", x.river(river, 3), river);
            checks.due("river(" + river + ", 4)", x.river(river, 4), 0);
        }
        // Growth: 1, 3, 5, 7, 9. f by r: 3 > 1. b never by r. o never by b. t by o. The sea takes 3 of f, all.
        checks.due("hour()", x.hour(), 3);
        checks.dueRow("after an hour", x, 0, 2, 4, 3, 1);
        int[] water = {1, 0, 5, 7, 9};
        for (int river = 0; river < 5; river++) {
            checks.due("after an hour: river(" + river + ", 1)", x.river(river, 1), water[river]);
            checks.due("after an hour: river(" + river + ", 2)", x.river(river, 2), river);
            checks.due("after an hour: river(" + river + ", 4)", x.river(river, 4), river == 1 ? 3 : 0);
        }
    }

    private static void riverRefuses(Checks checks) {
        RiversQueue x = Checks.coastOf("r10,f21;7");
        long h = x.digest();
        for (int wild : Checks.WILD) {
            checks.dueUnchanged("river(" + wild + ", 1)", x, x.river(wild, 1), Checks.UNKNOWN, h);
            checks.dueUnchanged("river(" + wild + ", wild)", x, x.river(wild, wild), Checks.UNKNOWN, h);
            checks.dueUnchanged("river(0, " + wild + ")", x, x.river(0, wild), Checks.OUTSIDE, h);
        }
        checks.dueUnchanged("river(2, 1)", x, x.river(2, 1), Checks.UNKNOWN, h);
        checks.dueUnchanged("river(2, 8)", x, x.river(2, 8), Checks.UNKNOWN, h);
        checks.dueUnchanged("river(1, 8)", x, x.river(1, 8), Checks.OUTSIDE, h);
    }

    private static void asKinds(Checks checks) {
        RiversQueue x = Checks.coastOf("r10,f21,b32,o43,t54;7");
        String[] such = {"10000", "11000", "10100", "10010", "11001"};
        for (int river = 0; river < 5; river++) {
            for (int kind = 0; kind < 5; kind++) {
                int want = such[river].charAt(kind) == '1' ? river : Checks.NONE;
                checks.due("as(" + river + ", " + kind + ")", x.as(river, kind), want);
            }
        }
        checks.due("as(0, 5)", x.as(0, 5), Checks.OUTSIDE);
        checks.due("as(5, 0)", x.as(5, 0), Checks.UNKNOWN);
        checks.due("as(5, 5)", x.as(5, 5), Checks.UNKNOWN);
        for (int wild : Checks.WILD) {
            checks.due("as(0, " + wild + ")", x.as(0, wild), Checks.OUTSIDE);
            checks.due("as(" + wild + ", 0)", x.as(wild, 0), Checks.UNKNOWN);
            checks.due("as(" + wild + ", wild)", x.as(wild, wild), Checks.UNKNOWN);
        }
    }

    private static void rowTells(Checks checks) {
        RiversQueue x = Checks.coastOf("b10,b20,b30,b40;7");
        checks.dueRow("as read", x, 0, 1, 2, 3);
        x.drought(1);
        checks.dueRow("drought(1)", x, 0, 2, 3, 1);
        checks.due("row(4)", x.row(4), Checks.UNKNOWN);
        for (int wild : Checks.WILD) {
            checks.due("row(" + wild + ")", x.row(wild), Checks.UNKNOWN);
        }
    }
}
