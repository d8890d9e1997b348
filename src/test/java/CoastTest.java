/** Promises 5 to 8: coast, river (what is read), as, row. */
public final class CoastTest {
    private static final String OF_EACH_KIND = "r10,f21,b32,o43,t54;7";

    public static void main(String[] args) {
        Checks checks = new Checks("CoastTest");
        twoToFiveRivers(checks);
        eachKind(checks);
        waterFrom0To9(checks);
        flowFrom0To5(checks);
        barFrom1To9(checks);
        whatIsNoCoast(checks);
        aTextThatIsNotYetACoast(checks);
        aRefusedCoastChangesNothing(checks);
        thePageIsEmptyThen(checks);
        anotherOneIsGone(checks);
        fewerRiversAndMore(checks);
        riverTells(checks);
        riverRefuses(checks);
        asKinds(checks);
        asRefuses(checks);
        rowTells(checks);
        rowRefuses(checks);
        checks.end();
    }

    private static void dueCoast(Checks checks, String text, int rivers) {
        RiversQueue x = Checks.pageOf(text);
        checks.due("fault() of " + text, x.fault(), text.length());
        checks.due("coast() of " + text, x.coast(), rivers);
        checks.due("count(0) of " + text, x.count(0), rivers);
        checks.due("count(7) of " + text, x.count(7), 1);
    }

    private static void dueNoCoast(Checks checks, String text) {
        checks.dueRefused("coast() of \"" + text + "\"", () -> Checks.pageOf(text), x -> x.coast(), Checks.STATE);
    }

    /** "two to five RIVERS". */
    private static void twoToFiveRivers(Checks checks) {
        dueNoCoast(checks, ";1");
        dueNoCoast(checks, "r10;1");
        dueCoast(checks, "r10,f21;1", 2);
        dueCoast(checks, "r10,f21,b32;1", 3);
        dueCoast(checks, "r10,f21,b32,o43;1", 4);
        dueCoast(checks, "r10,f21,b32,o43,t54;1", 5);
        // The page has no room for the bar of six.
        dueNoCoast(checks, "r10,f21,b32,o43,t54,r10");
        dueNoCoast(checks, "r10,f21,b32,o43,t54,r10;");
    }

    private static void eachKind(Checks checks) {
        for (int kind = 0; kind < 5; kind++) {
            String text = "b00," + "rfbot".charAt(kind) + "00;1";
            dueCoast(checks, text, 2);
            checks.due("kind of 1 in " + text, Checks.coastOf(text).river(1, 0), kind);
            String sole = "rfbot".charAt(kind) + "10," + "rfbot".charAt(kind) + "10;1";
            checks.due("kind of 0 in " + sole, Checks.coastOf(sole).river(0, 0), kind);
        }
        for (String letter : new String[] {"R", "F", "s", "q", "a", "1", ",", ";"}) {
            dueNoCoast(checks, letter + "10,f20;1");
            dueNoCoast(checks, "f10," + letter + "20;1");
        }
    }

    /** "the WATER that stands in it (0 to 9)"; '/' and ':' are the signs next to the digits. */
    private static void waterFrom0To9(Checks checks) {
        for (int water = 0; water <= 9; water++) {
            RiversQueue x = Checks.coastOf("b" + water + "0,b00;1");
            checks.due("water " + water, x.river(0, 1), water);
            RiversQueue last = Checks.coastOf("b00,b00,b00,b00,b" + water + "0;1");
            checks.due("water " + water + " of the last", last.river(4, 1), water);
        }
        for (String sign : new String[] {"/", ":", "-", "r", ","}) {
            dueNoCoast(checks, "b" + sign + "0,b00;1");
            dueNoCoast(checks, "b00,b" + sign + "0;1");
        }
        dueNoCoast(checks, "b100,b00;1");
    }

    /** "the FLOW by the HOUR (0 to 5)". */
    private static void flowFrom0To5(Checks checks) {
        for (int flow = 0; flow <= 5; flow++) {
            RiversQueue x = Checks.coastOf("b0" + flow + ",b00;1");
            checks.due("flow " + flow, x.river(0, 2), flow);
            RiversQueue last = Checks.coastOf("b00,b00,b00,b00,b0" + flow + ";1");
            checks.due("flow " + flow + " of the last", last.river(4, 2), flow);
        }
        for (String sign : new String[] {"/", "6", "7", "9", ":", "-", ","}) {
            dueNoCoast(checks, "b0" + sign + ",b00;1");
            dueNoCoast(checks, "b00,b0" + sign + ";1");
        }
    }

    /** "a digit BAR (1 to 9)". */
    private static void barFrom1To9(Checks checks) {
        for (int bar = 1; bar <= 9; bar++) {
            checks.due("bar " + bar, Checks.coastOf("b00,b00;" + bar).count(1), bar);
            checks.due("bar " + bar + " of five", Checks.coastOf("b00,b00,b00,b00,b00;" + bar).count(1), bar);
        }
        for (String sign : new String[] {"0", "/", ":", "-", "r", ";", "10", "01", "1;", "1 "}) {
            dueNoCoast(checks, "b00,b00;" + sign);
        }
        dueNoCoast(checks, "b00,b00,b00,b00,b00;0");
        dueNoCoast(checks, "b00,b00,b00,b00,b00;:");
    }

    private static void whatIsNoCoast(Checks checks) {
        String[] texts = {"r10f20;1", "r10;f20;1", "r10,f20,1", "r10,f20:1", "r10,f20,;1", ",r10,f20;1", "r10,,f20;1",
            "r1,f20;1", "r,f20;1", "10,f20;1", "r10,f20 ;1", " r10,f20;1", "r10,f20;1,", "r10,f20;1r", "r10,f2;1"};
        for (String text : texts) {
            dueNoCoast(checks, text);
        }
    }

    /** Each beginning of a coast lacks something, the empty page all. */
    private static void aTextThatIsNotYetACoast(Checks checks) {
        String text = "r10,f21,b32,o43,t54;7";
        for (int length = 0; length < text.length(); length++) {
            dueNoCoast(checks, text.substring(0, length));
        }
    }

    private static void aRefusedCoastChangesNothing(Checks checks) {
        // In these scenes the page is empty, or holds what is no coast; the image is compared, too.
        checks.dueRefused("coast() of no coast", Scene.values(), x -> x.coast(), Checks.STATE);
        RiversQueue x = Scene.FIVE.get();
        checks.due("coast()", x.coast(), Checks.STATE);
        checks.due("the page stands", x.blank(), 3);
        checks.due("none was read", x.count(7), 1);
    }

    /** "THE PAGE is empty then". */
    private static void thePageIsEmptyThen(Checks checks) {
        RiversQueue x = Checks.coastOf(OF_EACH_KIND);
        checks.due("count(6)", x.count(6), 0);
        checks.due("fault()", x.fault(), 0);
        checks.due("blank()", x.blank(), 0);
        checks.dueRefused("coast() again", () -> Checks.coastOf(OF_EACH_KIND), y -> y.coast(), Checks.STATE);
    }

    /** "another one is gone, with all that was"; but what counts on. */
    private static void anotherOneIsGone(Checks checks) {
        RiversQueue x = Scene.FULL.get();
        x.blank();
        Checks.write(x, "b40,o52;3");
        checks.due("coast() of another", x.coast(), 2);
        int[] counts = {2, 3, 9, 0, 0, 0, 0, 2, 30};
        for (int what = 0; what < counts.length; what++) {
            checks.due("another coast: count(" + what + ")", x.count(what), counts[what]);
        }
        checks.dueRow("another coast", x, 0, 1);
        checks.due("another coast: took of 0", x.river(0, 4), 0);
        checks.due("another coast: took of 1", x.river(1, 4), 0);
        checks.due("another coast: all waters are possible", x.river(0, 6), 1023);
        checks.due("another coast: river(2, 0)", x.river(2, 0), Checks.UNKNOWN);
        checks.due("another coast: restore()", x.restore(), Checks.STATE);
        for (int i = 1; i <= 6; i++) {
            checks.due("another coast: see()", x.see(1, 0, true), i);
        }
    }

    private static void fewerRiversAndMore(Checks checks) {
        String[] texts = {OF_EACH_KIND, "t95,b94;9", "o10,r20,f30;1", "b05,b14,b23,b32,b41;2", OF_EACH_KIND};
        RiversQueue x = new RiversQueue();
        for (int i = 0; i < texts.length; i++) {
            Checks.write(x, texts[i]);
            RiversQueue fresh = Checks.coastOf(texts[i]);
            checks.due("coast() of " + texts[i], x.coast(), fresh.count(0));
            for (int river = 0; river < 5; river++) {
                for (int what = 0; what <= 7; what++) {
                    checks.due("river(" + river + ", " + what + ")", x.river(river, what), fresh.river(river, what));
                }
                checks.due("row(" + river + ")", x.row(river), fresh.row(river));
            }
            checks.due("count(2)", x.count(2), fresh.count(2));
            checks.due("count(7)", x.count(7), i + 1);
            x.hour();
            x.drought(0);
        }
    }

    private static void riverTells(Checks checks) {
        RiversQueue x = Checks.coastOf(OF_EACH_KIND);
        for (int river = 0; river < 5; river++) {
            checks.due("river(" + river + ", 0)", x.river(river, 0), river);
            checks.due("river(" + river + ", 1)", x.river(river, 1), river + 1);
            checks.due("river(" + river + ", 2)", x.river(river, 2), river);
            checks.due("river(" + river + ", 3)", x.river(river, 3), river);
            checks.due("river(" + river + ", 4)", x.river(river, 4), 0);
        }
        // Growth: 1, 3, 5, 7, 9. f by r: 3 > 1. b never by r. o never by b. t by o. The sea takes 3 of f, all.
        checks.due("hour()", x.hour(), 3);
        checks.dueRow("after an hour", x, 0, 2, 4, 3, 1);
        int[] water = {1, 0, 5, 7, 9};
        for (int river = 0; river < 5; river++) {
            checks.due("after an hour: river(" + river + ", 1)", x.river(river, 1), water[river]);
            checks.due("after an hour: river(" + river + ", 2)", x.river(river, 2), river);
            checks.due("after an hour: river(" + river + ", 4)", x.river(river, 4), river == 1 ? 3 : 0);
        }
    }

    /** "UNKNOWN; OUTSIDE", in this order, of what from 0 to 7. */
    private static void riverRefuses(Checks checks) {
        for (Scene scene : Scene.values()) {
            for (int river : Checks.beyond(scene.rivers())) {
                String call = scene + ": river(" + river + ", ";
                checks.dueRefused(call + "0)", scene, x -> x.river(river, 0), Checks.UNKNOWN);
                checks.dueRefused(call + "7)", scene, x -> x.river(river, 7), Checks.UNKNOWN);
                checks.dueRefused(call + "8)", scene, x -> x.river(river, 8), Checks.UNKNOWN);
                checks.dueRefused(call + "-1)", scene, x -> x.river(river, -1), Checks.UNKNOWN);
            }
        }
        for (int what : Checks.outside(0, 7)) {
            checks.dueRefused("river(0, " + what + ")", Scene.WITH_COAST, x -> x.river(0, what), Checks.OUTSIDE);
            checks.dueRefused("river(4, " + what + ")", Scene.FIVE, x -> x.river(4, what), Checks.OUTSIDE);
        }
    }

    /** "All are RIVERS; a TORRENT is a FLOOD, too". */
    private static void asKinds(Checks checks) {
        RiversQueue x = Checks.coastOf(OF_EACH_KIND);
        Told before = Told.by(x);
        String[] such = {"10000", "11000", "10100", "10010", "11001"};
        for (int river = 0; river < 5; river++) {
            for (int kind = 0; kind < 5; kind++) {
                int want = such[river].charAt(kind) == '1' ? river : Checks.NONE;
                checks.due("as(" + river + ", " + kind + ")", x.as(river, kind), want);
            }
        }
        Told.by(x).dueAs(checks, "as() changes nothing", before);
    }

    /** "UNKNOWN; OUTSIDE", in this order, of kinds from 0 to 4. */
    private static void asRefuses(Checks checks) {
        for (Scene scene : Scene.values()) {
            for (int river : Checks.beyond(scene.rivers())) {
                String call = scene + ": as(" + river + ", ";
                checks.dueRefused(call + "0)", scene, x -> x.as(river, 0), Checks.UNKNOWN);
                checks.dueRefused(call + "4)", scene, x -> x.as(river, 4), Checks.UNKNOWN);
                checks.dueRefused(call + "5)", scene, x -> x.as(river, 5), Checks.UNKNOWN);
                checks.dueRefused(call + "-1)", scene, x -> x.as(river, -1), Checks.UNKNOWN);
            }
        }
        for (int kind : Checks.outside(0, 4)) {
            checks.dueRefused("as(0, " + kind + ")", Scene.WITH_COAST, x -> x.as(0, kind), Checks.OUTSIDE);
            checks.dueRefused("as(4, " + kind + ")", Scene.FIVE, x -> x.as(4, kind), Checks.OUTSIDE);
        }
    }

    /** "numbered from 0, as they stand in a ROW, 0 ahead". */
    private static void rowTells(Checks checks) {
        checks.dueRow("two as read", Checks.coastOf("b10,b20;7"), 0, 1);
        checks.dueRow("five as read", Checks.coastOf(OF_EACH_KIND), 0, 1, 2, 3, 4);
        RiversQueue x = Checks.coastOf("b10,b20,b30,b40;7");
        checks.dueRow("as read", x, 0, 1, 2, 3);
        x.drought(1);
        checks.dueRow("drought(1)", x, 0, 2, 3, 1);
    }

    private static void rowRefuses(Checks checks) {
        for (Scene scene : Scene.values()) {
            for (int place : Checks.beyond(scene.rivers())) {
                checks.dueRefused(scene + ": row(" + place + ")", scene, x -> x.row(place), Checks.UNKNOWN);
            }
        }
    }
}
