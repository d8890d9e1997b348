import java.util.Random;

/** Runs of up to 512 calls, drawn by fixed seeds, with the answers of SlowCoast as those that are due. */
public final class RandomRunsTest {
    private static final int RUNS = 60;
    private static final int CALLS = 512;
    /** What newCoast() takes at most: 21 letters, and blank(), fault(), coast(). */
    private static final int COAST_CALLS = 24;

    private final Random random;
    private final Checks checks;
    private final RiversQueue x = new RiversQueue();
    private final SlowCoast slow = new SlowCoast();
    private final int run;

    private RandomRunsTest(Checks checks, int run) {
        this.checks = checks;
        this.run = run;
        random = new Random(run);
    }

    public static void main(String[] args) {
        Checks checks = new Checks("RandomRunsTest");
        for (int run = 0; run < RUNS; run++) {
            new RandomRunsTest(checks, run).go();
        }
        checks.end();
    }

    private void go() {
        int calls = 0;
        // The last call is digest().
        while (calls + COAST_CALLS < CALLS) {
            calls += random.nextInt(40) == 0 ? newCoast() : oneCall();
        }
        due("digest()", x.digest(), slow.digest());
    }

    private int newCoast() {
        String text = coastText();
        due("blank()", x.blank(), slow.blank());
        for (char letter : text.toCharArray()) {
            due("letter(" + (int) letter + ")", x.letter(letter), slow.letter(letter));
        }
        due("fault()", x.fault(), slow.fault());
        due("coast()", x.coast(), slow.coast());
        return text.length() + 3;
    }

    private String coastText() {
        StringBuilder text = new StringBuilder();
        int rivers = 2 + random.nextInt(4);
        for (int river = 0; river < rivers; river++) {
            text.append(river == 0 ? "" : ",").append("rfbot".charAt(random.nextInt(5)));
            text.append(random.nextInt(10)).append(random.nextInt(random.nextBoolean() ? 6 : 2));
        }
        text.append(';').append(1 + random.nextInt(9));
        if (random.nextInt(8) == 0) {
            text.setCharAt(random.nextInt(text.length()), (char) (1 + random.nextInt(126)));
        }
        return text.toString();
    }

    /** Mostly a number that names something, and now and then none of them. */
    private int number(int least, int most) {
        switch (random.nextInt(12)) {
            case 0: return least - 1;
            case 1: return most + 1;
            case 2: return Checks.WILD[random.nextInt(Checks.WILD.length)];
            default: return least + random.nextInt(most - least + 1);
        }
    }

    private int oneCall() {
        int a = number(0, 4);
        boolean taken = random.nextBoolean();
        switch (random.nextInt(21)) {
            case 0: case 1: due("hour()", x.hour(), slow.hour()); break;
            case 2: case 3: {
                int what = number(0, 7);
                due("river(" + a + ", " + what + ")", x.river(a, what), slow.river(a, what));
                break;
            }
            case 4: {
                int kind = number(0, 4);
                due("as(" + a + ", " + kind + ")", x.as(a, kind), slow.as(a, kind));
                break;
            }
            case 5: due("row(" + a + ")", x.row(a), slow.row(a)); break;
            case 6: case 7: {
                int much = number(1, taken ? 50 : 6);
                due("rain(" + a + ", " + much + ")", x.rain(a, much), slow.rain(a, much));
                break;
            }
            case 8: due("drought(" + a + ")", x.drought(a), slow.drought(a)); break;
            case 9: {
                int hours = number(1, 60);
                int what = number(0, 1);
                due("wide(" + hours + ", " + what + ")", x.wide(hours, what), slow.wide(hours, what));
                break;
            }
            case 10: {
                int what = taken ? 0 : number(10, 14);
                due("best(" + what + ")", x.best(what), slow.best(what));
                break;
            }
            case 11: case 12: {
                int hour = number(1, 12);
                due("see(" + hour + ", " + a + ", " + taken + ")", x.see(hour, a, taken), slow.see(hour, a, taken));
                break;
            }
            default: return oneMoreCall();
        }
        return 1;
    }

    private int oneMoreCall() {
        switch (random.nextInt(9)) {
            case 0: due("forget()", x.forget(), slow.forget()); break;
            case 1: {
                int hours = number(1, 60);
                int seed = random.nextInt(3) == 0 ? number(0, 9) : random.nextInt() >>> 1;
                int what = number(0, 2);
                due("seasons(" + hours + ", " + seed + ", " + what + ")",
                    x.seasons(hours, seed, what), slow.seasons(hours, seed, what));
                break;
            }
            case 2: due("image()", x.image(), slow.image()); break;
            case 3: due("restore()", x.restore(), slow.restore()); break;
            case 4: {
                int what = number(0, 8);
                due("count(" + what + ")", x.count(what), slow.count(what));
                break;
            }
            case 5: due("digest()", x.digest(), slow.digest()); break;
            case 6: {
                int code = number(1, 126);
                due("letter(" + code + ")", x.letter(code), slow.letter(code));
                break;
            }
            case 7: due("fault()", x.fault(), slow.fault()); break;
            default: due("coast()", x.coast(), slow.coast()); break;
        }
        return 1;
    }

    private void due(String call, long got, long want) {
        checks.due("run " + run + ", " + call, got, want);
    }
}
