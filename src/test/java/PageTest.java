/** Promises 2 to 4: letter, blank, fault. */
public final class PageTest {
    public static void main(String[] args) {
        Checks checks = new Checks("PageTest");
        lettersComeBehind(checks);
        lettersRefused(checks);
        blankEmpties(checks);
        faultFindsTheFirst(checks);
        faultOfOneMoreLetter(checks);
        checks.end();
    }

    private static void lettersComeBehind(Checks checks) {
        RiversQueue x = new RiversQueue();
        checks.due("letter(1)", x.letter(1), 1);
        checks.due("letter(126)", x.letter(126), 2);
        checks.due("letter(65)", x.letter(65), 3);
        checks.due("count(6)", x.count(6), 3);
        RiversQueue y = new RiversQueue();
        Checks.write(y, "A" + (char) 1 + (char) 126);
        checks.due("the order tells in digest()", x.digest() != y.digest());
    }

    private static void lettersRefused(Checks checks) {
        RiversQueue x = new RiversQueue();
        long empty = x.digest();
        checks.dueUnchanged("letter(0)", x, x.letter(0), Checks.OUTSIDE, empty);
        for (int code : Checks.WILD) {
            checks.dueUnchanged("letter(" + code + ")", x, x.letter(code), Checks.OUTSIDE, empty);
        }
        for (int i = 1; i <= 24; i++) {
            checks.due("letter(114), the " + i + "th", x.letter(114), i);
        }
        long full = x.digest();
        checks.dueUnchanged("letter(114), the 25th", x, x.letter(114), Checks.FULL, full);
        checks.dueUnchanged("letter(0) of a full page", x, x.letter(0), Checks.OUTSIDE, full);
        checks.dueUnchanged("letter(127) of a full page", x, x.letter(127), Checks.OUTSIDE, full);
        checks.due("blank() of a full page", x.blank(), 24);
        checks.due("letter(114) after blank()", x.letter(114), 1);
    }

    private static void blankEmpties(Checks checks) {
        RiversQueue x = new RiversQueue();
        Checks.write(x, "r1x");
        checks.due("blank()", x.blank(), 3);
        checks.due("count(6) after blank()", x.count(6), 0);
        checks.due("fault() after blank()", x.fault(), 0);
        checks.due("blank() again", x.blank(), 0);
        Checks.write(x, "r10,f20;1");
        checks.due("coast() after blank()", x.coast(), 2);
        checks.due("blank() keeps the coast", x.blank() == 0 && x.count(0) == 2);
    }

    private static void faultFindsTheFirst(Checks checks) {
        due(checks, "", 0);
        due(checks, "r", 1);
        due(checks, "x", 0);
        due(checks, "R10", 0);
        due(checks, "1r0", 0);
        due(checks, ",", 0);
        due(checks, ";", 0);
        due(checks, "r9", 2);
        due(checks, "rr", 1);
        due(checks, "r,", 1);
        due(checks, "r95", 3);
        due(checks, "r96", 2);
        due(checks, "r0/", 2);
        due(checks, "r0,", 2);
        due(checks, "r95;", 3);
        due(checks, "r95r", 3);
        due(checks, "r95,", 4);
        due(checks, "r95,,", 4);
        due(checks, "r95,f0", 6);
        due(checks, "r95,f05;", 8);
        due(checks, "r95,f05;0", 8);
        due(checks, "r95,f05;1", 9);
        due(checks, "r95,f05;9", 9);
        due(checks, "r95,f05;:", 8);
        due(checks, "r95,f05;;", 8);
        due(checks, "r95,f05;12", 9);
        due(checks, "r95,f05;1;", 9);
        due(checks, "r95,f05;1,", 9);
        due(checks, "r95,f05;1r10", 9);
        due(checks, "r00,f00,b00,o00,t00", 19);
        due(checks, "r00,f00,b00,o00,t00,", 19);
        due(checks, "r00,f00,b00,o00,t00;", 20);
        due(checks, "r00,f00,b00,o00,t00;5", 21);
        due(checks, "r00,f00,b00,o00,t00;5555", 21);
        due(checks, "x00,y00", 0);
        due(checks, "rrrrrrrrrrrrrrrrrrrrrrrr", 1);
    }

    private static void due(Checks checks, String text, int want) {
        RiversQueue x = new RiversQueue();
        Checks.write(x, text);
        checks.due("fault() of \"" + text + "\"", x.fault(), want);
        checks.due("fault() keeps the page", x.count(6), text.length());
    }

    private static void faultOfOneMoreLetter(Checks checks) {
        String[] beginnings = {"", "r", "r1", "r10", "r10,", "r10,f23", "r10,f23;", "r10,f23;4",
            "r10,f23,b45,o00,t11", "r10,f23,b45,o00,t11;"};
        for (String text : beginnings) {
            for (int code = 1; code <= 126; code++) {
                RiversQueue x = new RiversQueue();
                Checks.write(x, text + (char) code);
                SlowCoast slow = new SlowCoast();
                for (char letter : (text + (char) code).toCharArray()) {
                    slow.letter(letter);
                }
                checks.due("fault() of \"" + text + "\" and " + code, x.fault(), slow.fault());
            }
        }
    }
}
