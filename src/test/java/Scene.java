import java.util.function.Supplier;

/** How an object can stand when a call is refused; each is made anew. */
enum Scene implements Supplier<RiversQueue> {
    /** No coast. */
    NEW,
    /** No coast, and letters that are none yet. */
    WRITTEN,
    /** The fewest rivers, as read. */
    TWO,
    /** The most rivers some hours on, an image that is not how they stand now, some of all else. */
    FIVE,
    /** As much of all as there can be: letters, what is seen, and best() done. */
    FULL;

    static final Scene[] WITHOUT_COAST = {NEW, WRITTEN};
    static final Scene[] WITH_COAST = {TWO, FIVE, FULL};

    @Override public RiversQueue get() {
        switch (this) {
            case NEW: return new RiversQueue();
            case WRITTEN: return Checks.pageOf("r10,f20;");
            case TWO: return Checks.coastOf("r10,f20;1");
            case FIVE: return fiveHoursOn();
            default: return filled(fiveHoursOn());
        }
    }

    /** How many rivers there are: the first number that names none. */
    int rivers() {
        switch (this) {
            case NEW: return 0;
            case WRITTEN: return 0;
            case TWO: return 2;
            default: return 5;
        }
    }

    private static RiversQueue fiveHoursOn() {
        RiversQueue x = Checks.coastOf("r31,f82,b12,o43,t54;7");
        x.hour();
        x.hour();
        x.see(2, 1, true);
        x.image();
        x.hour();
        x.rain(2, 30);
        x.drought(4);
        x.see(12, 0, false);
        x.best(0);
        Checks.write(x, "r9;");
        return x;
    }

    /** Counted by itself, not by what the object tells: a wrong one is to be told, not waited for. */
    private static RiversQueue filled(RiversQueue x) {
        Checks.write(x, "r".repeat(21));
        for (int i = 0; i < 4; i++) {
            x.see(3, 2, false);
        }
        for (int i = 0; i < 29; i++) {
            x.best(14);
        }
        return x;
    }
}
