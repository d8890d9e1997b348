/** Promises 2 to 4: letter, blank, fault. */
public final class PageTest {
    public static void main(String[] args) {
        Checks checks = new Checks("PageTest");
        lettersComeBehind(checks);
        eachCodeFrom1To126(checks);
        codesOutside(checks);
        fullAbove24(checks);
        roomAgain(checks);
        blankTellsHowMany(checks);
        blankEmptiesThePageAlone(checks);
        faultFindsTheFirst(checks);
        faultByEachPlaceAndCode(checks);
        faultBehindTheBar(checks);
        faultOfAnEarlierEnd(checks);
        faultChangesNothing(checks);
        checks.end();
    }

    private static void lettersComeBehind(Checks checks) {
        RiversQueue x = Checks.pageOf("A" + (char) 126 + (char) 1);
        RiversQueue y = Checks.pageOf("A" + (char) 1 + (char) 126);
        checks.due("count(6)", x.count(6), 3);
        // Nine counts come behind the letters.
        long weight = 1;
        for (int what = 0; what <= 8; what++) {
            weight *= 31;
        }
        checks.due("126 stands ahead of 1", x.digest() - y.digest(), weight * (31 * 125 - 125));
    }

    /** "code (1 to 126)". */
    private static void eachCodeFrom1To126(Checks checks) {
        for (int code = 1; code <= 126; code++) {
            RiversQueue x = new RiversQueue();
            checks.due("letter(" + code + ")", x.letter(code), 1);
            checks.due("letter(" + code + ") again", x.letter(code), 2);
        }
    }

    /** "OUTSIDE: code", of a full page, too, as it is told ahead of FULL. */
    private static void codesOutside(Checks checks) {
        for (int code : Checks.outside(1, 126)) {
            checks.dueRefused("letter(" + code + ")", Scene.values(), x -> x.letter(code), Checks.OUTSIDE);
        }
        // As narrow numbers these would be letters.
        for (int code : new int[] {'r' + 256, 'r' + 65536, 'r' - 256, -'r'}) {
            checks.dueRefused("letter(" + code + ")", Scene.values(), x -> x.letter(code), Checks.OUTSIDE);
        }
    }

    /** "FULL: above 24". */
    private static void fullAbove24(Checks checks) {
        RiversQueue x = new RiversQueue();
        for (int i = 1; i <= 24; i++) {
            checks.due("letter(114), the " + i + "th", x.letter(114), i);
        }
        for (int code : new int[] {1, 114, 126}) {
            checks.dueRefused("the 25th, letter(" + code + ")", Scene.FULL, y -> y.letter(code), Checks.FULL);
            checks.dueRefused("the 25th alone", () -> Checks.pageOf("~".repeat(24)), y -> y.letter(code), Checks.FULL);
            checks.dueRefused("the 25th, a coast", PageTest::fullPageOnACoast, y -> y.letter(code), Checks.FULL);
            checks.due("the 25th, letter(" + code + ")", x.letter(code), Checks.FULL);
        }
        checks.due("count(6)", x.count(6), 24);
    }

    private static RiversQueue fullPageOnACoast() {
        RiversQueue x = Scene.TWO.get();
        Checks.write(x, "r".repeat(24));
        return x;
    }

    private static void roomAgain(Checks checks) {
        RiversQueue x = Scene.FULL.get();
        checks.due("blank() of a full page", x.blank(), 24);
        for (int i = 1; i <= 24; i++) {
            checks.due("after blank(), the " + i + "th", x.letter(59), i);
        }
        checks.due("after blank(), the 25th", x.letter(59), Checks.FULL);
        RiversQueue y = Checks.coastOf("r10,f20;1");
        for (int i = 1; i <= 24; i++) {
            checks.due("after coast(), the " + i + "th", y.letter(59), i);
        }
        checks.due("after coast(), the 25th", y.letter(59), Checks.FULL);
    }

    private static void blankTellsHowMany(Checks checks) {
        for (int many : new int[] {0, 1, 23, 24}) {
            RiversQueue x = Checks.pageOf("r".repeat(many));
            checks.due("blank() of " + many, x.blank(), many);
            checks.due("count(6) after blank() of " + many, x.count(6), 0);
            checks.due("fault() after blank() of " + many, x.fault(), 0);
            checks.due("blank() again", x.blank(), 0);
        }
    }

    private static void blankEmptiesThePageAlone(Checks checks) {
        RiversQueue x = Scene.FIVE.get();
        RiversQueue twin = Scene.FIVE.get();
        checks.due("blank()", x.blank(), 3);
        checks.due("letter() after blank()", x.letter('r'), 1);
        checks.due("letter() after blank()", x.letter('9'), 2);
        checks.due("letter() after blank()", x.letter(';'), 3);
        Told.by(x).dueAs(checks, "written again", Told.by(twin));
        checks.due("the image is kept", x.restore(), twin.restore());
        Told.by(x).dueAs(checks, "restored", Told.by(twin));
    }

    private static void dueFault(Checks checks, String text, int want) {
        RiversQueue x = Checks.pageOf(text);
        checks.due("fault() of \"" + text + "\"", x.fault(), want);
        checks.due("fault() keeps the page", x.count(6), text.length());
    }

    private static void faultFindsTheFirst(Checks checks) {
        dueFault(checks, "", 0);
        dueFault(checks, "x00,y00", 0);
        dueFault(checks, "R10", 0);
        dueFault(checks, "1r0", 0);
        dueFault(checks, " r10", 0);
        dueFault(checks, "r10 ,f20;1", 3);
        dueFault(checks, "r10, f20;1", 4);
        dueFault(checks, "r010,f20;1", 3);
        dueFault(checks, "r95,,", 4);
        dueFault(checks, "rrrrrrrrrrrrrrrrrrrrrrrr", 1);
        // As many as the page takes: 24.
        dueFault(checks, "r00,f00,b00,o00,t00;5555", 21);
        dueFault(checks, "r00,f00,b00,o00,t00,r00;", 19);
    }

    /** The signs that a coast of five rivers, and of fewer so far, can have at each place. */
    private static String allowedAt(int place) {
        if (place == 20) {
            return "123456789";
        }
        switch (place % 4) {
            case 0: return "rfbot";
            case 1: return "0123456789";
            case 2: return "012345";
            default: return place == 3 ? "," : place == 19 ? ";" : ",;";
        }
    }

    /** "that no COAST has there, behind those ahead of it": each code at each place. */
    private static void faultByEachPlaceAndCode(Checks checks) {
        String text = "r95,f00,b12,o34,t55;9";
        for (int place = 0; place < text.length(); place++) {
            for (int code = 1; code <= 126; code++) {
                boolean allowed = allowedAt(place).indexOf((char) code) >= 0;
                String begun = text.substring(0, place) + (char) code;
                dueFault(checks, begun, allowed ? place + 1 : place);
                if (!allowed) {
                    dueFault(checks, begun + text.substring(Math.min(place + 1, text.length())), place);
                }
            }
        }
    }

    private static void faultBehindTheBar(Checks checks) {
        for (String text : new String[] {"r95,f00;1", "r95,f00,b12;9", "r95,f00,b12,o34;5", "r95,f00,b12,o34,t55;9"}) {
            dueFault(checks, text, text.length());
            for (int code = 1; code <= 126; code++) {
                dueFault(checks, text + (char) code, text.length());
            }
        }
    }

    /** "two to five": the end of fewer rivers, with each code for the BAR. */
    private static void faultOfAnEarlierEnd(Checks checks) {
        dueFault(checks, "r95;", 3);
        for (String text : new String[] {"r95,f00;", "r95,f00,b12;", "r95,f00,b12,o34;"}) {
            dueFault(checks, text, text.length());
            for (int code = 1; code <= 126; code++) {
                boolean isBar = code >= '1' && code <= '9';
                dueFault(checks, text + (char) code, isBar ? text.length() + 1 : text.length());
            }
        }
    }

    private static void faultChangesNothing(Checks checks) {
        for (Scene scene : Scene.values()) {
            RiversQueue x = scene.get();
            Told before = Told.by(x);
            checks.due("fault() again", x.fault(), x.fault());
            Told.by(x).dueAs(checks, scene + ": fault()", before);
        }
    }
}
