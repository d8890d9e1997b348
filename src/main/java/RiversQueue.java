import java.util.Arrays;

/**
 * A coast on which rivers queue at the sea, told by numbers alone: what is refused is answered by
 * one of the constants below and changes nothing. ../shared/DOC.md tells what each call promises.
 */
public final class RiversQueue {
    public static final int NONE = -1, UNKNOWN = -101, OUTSIDE = -102, STATE = -103, FULL = -104;

    private static final int FEWEST_RIVERS = 2;
    private static final int MOST_RIVERS = 5;
    private static final int MOST_WATER = 99;
    private static final int MOST_RAIN = 50;
    private static final int MOST_LETTERS = 24;
    private static final int LAST_CODE = 126;
    private static final int MOST_HOURS = 60;
    private static final int BEST_HOURS = 10;
    private static final int MOST_BESTS = 30;
    private static final int FIRST_BEST_PLACE = 10;
    private static final int MOST_ORDERS = 120;
    private static final int MOST_SEEN = 6;
    private static final int SEEN_HOURS = 12;
    private static final int MOST_GUESSED_WATER = 9;
    private static final int SEASON_RAINS = 4;
    private static final int RIVER_TELLS = 7;
    private static final int COUNT_TELLS = 8;

    private static final int RIVER = 0;
    private static final int FLOOD = 1;
    private static final int BROOK = 2;
    private static final int OLD = 3;
    private static final int TORRENT = 4;
    /** The letter of each kind stands at the kind's number. */
    private static final String KIND_LETTERS = "rfbot";

    private final Page page;
    private final Coast coast;
    private final Shore now;
    private final Sightings seen;
    private final Shore keptShore;
    private final Sightings keptSeen;
    private final Forecast forecast;
    private final BestOrder bestOrder;
    private boolean imageKept;
    private int coastsRead;
    private int bestsDone;

    public RiversQueue() {
        page = new Page();
        coast = new Coast();
        now = new Shore(coast);
        seen = new Sightings();
        keptShore = new Shore(coast);
        keptSeen = new Sightings();
        forecast = new Forecast(coast, now, seen);
        bestOrder = new BestOrder(coast, now);
    }

    // ---- the coast

    public int letter(int code) {
        if (!within(code, 1, LAST_CODE)) {
            return OUTSIDE;
        }
        if (page.isFull()) {
            return FULL;
        }
        return page.write(code);
    }

    public int blank() {
        return page.clear();
    }

    public int fault() {
        return page.firstFault();
    }

    public int coast() {
        if (!page.holdsCoast()) {
            return STATE;
        }
        coast.readFrom(page);
        now.beginAs(page);
        page.clear();
        seen.clear();
        imageKept = false;
        coastsRead++;
        return coast.rivers;
    }

    public int river(int river, int what) {
        if (!coast.hasRiver(river)) {
            return UNKNOWN;
        }
        if (!within(what, 0, RIVER_TELLS)) {
            return OUTSIDE;
        }
        switch (what) {
            case 0: return coast.kinds[river];
            case 1: return now.water[river];
            case 2: return coast.flows[river];
            case 3: return now.placeOf(river);
            case 4: return now.took[river];
            case 5: return forecast.waitsOf(river);
            case 6: return forecast.possibleWaters(river);
            default: return forecast.hourToLook(river);
        }
    }

    public int as(int river, int kind) {
        if (!coast.hasRiver(river)) {
            return UNKNOWN;
        }
        if (!within(kind, RIVER, TORRENT)) {
            return OUTSIDE;
        }
        return isSuch(coast.kinds[river], kind) ? river : NONE;
    }

    public int row(int place) {
        // There are as many places in the row as rivers, numbered alike.
        return coast.hasRiver(place) ? now.row[place] : UNKNOWN;
    }

    // ---- hours, rain

    public int hour() {
        return coast.isRead() ? now.passHour() : STATE;
    }

    public int rain(int river, int much) {
        if (!coast.hasRiver(river)) {
            return UNKNOWN;
        }
        if (!within(much, 1, MOST_RAIN)) {
            return OUTSIDE;
        }
        return now.addWater(river, much);
    }

    public int drought(int river) {
        return coast.hasRiver(river) ? now.dryUp(river) : UNKNOWN;
    }

    // ---- what would be

    public int wide(int hours, int what) {
        if (!within(hours, 1, MOST_HOURS) || !within(what, 0, 1)) {
            return OUTSIDE;
        }
        if (!coast.isRead()) {
            return STATE;
        }
        int widest = forecast.widestHour(hours);
        return what == 0 ? forecast.waterBehind(widest) : widest;
    }

    public int best(int what) {
        int place = what - FIRST_BEST_PLACE;
        if (what != 0 && !within(place, 0, MOST_RIVERS - 1)) {
            return OUTSIDE;
        }
        if (!coast.isRead() || bestsDone >= MOST_BESTS) {
            return STATE;
        }
        bestsDone++;
        bestOrder.find();
        if (what == 0) {
            return bestOrder.least;
        }
        return coast.hasRiver(place) ? bestOrder.found[place] : NONE;
    }

    // ---- what is seen

    public int see(int hour, int river, boolean taken) {
        if (!within(hour, 1, SEEN_HOURS)) {
            return OUTSIDE;
        }
        if (!coast.hasRiver(river)) {
            return UNKNOWN;
        }
        if (seen.isFull()) {
            return FULL;
        }
        return seen.add(hour, river, taken);
    }

    public int forget() {
        return seen.clear();
    }

    public int seasons(int hours, int seed, int what) {
        if (!within(hours, 1, MOST_HOURS) || seed < 0 || !within(what, 0, 2)) {
            return OUTSIDE;
        }
        if (!coast.isRead()) {
            return STATE;
        }
        int taken = forecast.passSeasons(hours, seed);
        switch (what) {
            case 0: return taken;
            case 1: return forecast.trial.waterInAll();
            default: return forecast.draws.seed;
        }
    }

    // ---- what is told of all

    public int image() {
        if (!coast.isRead()) {
            return STATE;
        }
        keptShore.copyFrom(now);
        keptSeen.copyFrom(seen);
        imageKept = true;
        return now.hours;
    }

    public int restore() {
        if (!imageKept) {
            return STATE;
        }
        now.copyFrom(keptShore);
        seen.copyFrom(keptSeen);
        return now.hours;
    }

    public int count(int what) {
        switch (what) {
            case 0: return coast.rivers;
            case 1: return coast.bar;
            case 2: return now.waterInAll();
            case 3: return now.hours;
            case 4: return now.tookInAll();
            case 5: return seen.size;
            case 6: return page.size;
            case 7: return coastsRead;
            case 8: return bestsDone;
            default: return OUTSIDE;
        }
    }

    public long digest() {
        long h = 971;
        for (int river = 0; river < coast.rivers; river++) {
            for (int what = 0; what <= RIVER_TELLS; what++) {
                h = mixed(h, river(river, what));
            }
        }
        for (int place = 0; place < coast.rivers; place++) {
            h = mixed(h, row(place));
        }
        if (coast.isRead()) {
            h = mixed(h, wide(12, 0));
            h = mixed(h, wide(12, 1));
        }
        for (int place = 0; place < page.size; place++) {
            h = mixed(h, page.letters[place]);
        }
        for (int what = 0; what <= COUNT_TELLS; what++) {
            h = mixed(h, count(what));
        }
        return h;
    }

    private static long mixed(long h, long number) {
        return 31 * h + number;
    }

    private static boolean within(int number, int least, int most) {
        return number >= least && number <= most;
    }

    private static boolean isSuch(int kind, int such) {
        return such == RIVER || such == kind || (such == FLOOD && kind == TORRENT);
    }

    /** The letters that come one by one, until they are read as a coast. */
    private static final class Page {
        /** A river's three letters and the sign behind them. */
        private static final int RIVER_LETTERS = 4;

        private final int[] letters = new int[MOST_LETTERS];
        private int size;

        boolean isFull() {
            return size >= MOST_LETTERS;
        }

        int write(int code) {
            if (!isFull()) {
                letters[size] = code;
                size++;
            }
            return size;
        }

        int clear() {
            int had = size;
            size = 0;
            return had;
        }

        int firstFault() {
            for (int place = 0; place < size; place++) {
                if (!fits(place)) {
                    return place;
                }
            }
            return size;
        }

        boolean holdsCoast() {
            return firstFault() == size && standsBehindEnd(size - 1);
        }

        int rivers() {
            return size / RIVER_LETTERS;
        }

        int kindAt(int river) {
            return KIND_LETTERS.indexOf((char) codeAt(river * RIVER_LETTERS));
        }

        int waterAt(int river) {
            return codeAt(river * RIVER_LETTERS + 1) - '0';
        }

        int flowAt(int river) {
            return codeAt(river * RIVER_LETTERS + 2) - '0';
        }

        int lastDigit() {
            return codeAt(size - 1) - '0';
        }

        /** Whether a coast can have its letter there, when all letters ahead fit. */
        private boolean fits(int place) {
            int code = codeAt(place);
            if (standsBehindEnd(place - 1)) {
                return false;
            }
            if (standsBehindEnd(place)) {
                return within(code, '1', '9');
            }
            int river = place / RIVER_LETTERS;
            switch (place % RIVER_LETTERS) {
                case 0: return KIND_LETTERS.indexOf((char) code) >= 0;
                case 1: return within(code, '0', '9');
                case 2: return within(code, '0', '5');
                default: return fitsBehindRiver(code, river + 1);
            }
        }

        private static boolean fitsBehindRiver(int code, int rivers) {
            if (code == ',') {
                return rivers < MOST_RIVERS;
            }
            return code == ';' && rivers >= FEWEST_RIVERS;
        }

        /** Whether that is the place of the bar: just behind the semicolon. */
        private boolean standsBehindEnd(int place) {
            return codeAt(place - 1) == ';';
        }

        /** The code there, or 0, which no letter has. */
        private int codeAt(int place) {
            return place >= 0 && place < size && place < letters.length ? letters[place] : 0;
        }
    }

    /** What stays as it was read. */
    private static final class Coast {
        private final int[] kinds = new int[MOST_RIVERS];
        private final int[] flows = new int[MOST_RIVERS];
        private int rivers;
        private int bar;

        void readFrom(Page page) {
            rivers = Math.min(page.rivers(), MOST_RIVERS);
            bar = page.lastDigit();
            for (int river = 0; river < rivers; river++) {
                kinds[river] = page.kindAt(river);
                flows[river] = page.flowAt(river);
            }
        }

        boolean isRead() {
            return rivers > 0;
        }

        boolean hasRiver(int river) {
            return river >= 0 && river < rivers;
        }
    }

    /** What changes by hours, rain and drought. */
    private static final class Shore {
        private final Coast coast;
        private final int[] water = new int[MOST_RIVERS];
        private final int[] took = new int[MOST_RIVERS];
        /** The river that stands at each place. */
        private final int[] row = new int[MOST_RIVERS];
        private int hours;
        /** Of which river the sea took any water in the hour that passed last here, or NONE. */
        private int takenOf = NONE;

        Shore(Coast coast) {
            this.coast = coast;
        }

        void beginAs(Page page) {
            for (int river = 0; river < coast.rivers; river++) {
                water[river] = page.waterAt(river);
                took[river] = 0;
                row[river] = river;
            }
            hours = 0;
        }

        void copyFrom(Shore other) {
            System.arraycopy(other.water, 0, water, 0, MOST_RIVERS);
            System.arraycopy(other.took, 0, took, 0, MOST_RIVERS);
            System.arraycopy(other.row, 0, row, 0, MOST_RIVERS);
            hours = other.hours;
        }

        int waterInAll() {
            return sumOfRivers(water);
        }

        int tookInAll() {
            return sumOfRivers(took);
        }

        int placeOf(int river) {
            for (int place = 0; place < coast.rivers; place++) {
                if (row[place] == river) {
                    return place;
                }
            }
            return NONE;
        }

        int passHour() {
            for (int river = 0; river < coast.rivers; river++) {
                addWater(river, coast.flows[river]);
            }
            pushAll();
            hours++;
            return feedSea();
        }

        int addWater(int river, int much) {
            water[river] = Math.min(water[river] + much, MOST_WATER);
            return water[river];
        }

        int dryUp(int river) {
            int had = water[river];
            water[river] = 0;
            sendBehindAll(placeOf(river));
            return had;
        }

        /** One who pushed stands ahead of the next then, so going by places is each one once. */
        private void pushAll() {
            for (int place = 1; place < coast.rivers; place++) {
                int ahead = row[place - 1];
                int behind = row[place];
                if (pushes(behind, ahead)) {
                    row[place - 1] = behind;
                    row[place] = ahead;
                }
            }
        }

        private boolean pushes(int behind, int ahead) {
            int kind = coast.kinds[behind];
            if (kind == OLD) {
                return false;
            }
            if (coast.kinds[ahead] == OLD) {
                return water[behind] > 0;
            }
            switch (kind) {
                case FLOOD: return water[behind] > water[ahead];
                case BROOK: return false;
                case TORRENT: return water[behind] >= water[ahead];
                default: return water[behind] > 2 * water[ahead];
            }
        }

        private int feedSea() {
            int first = row[0];
            int much = Math.min(coast.bar, water[first]);
            water[first] -= much;
            took[first] += much;
            takenOf = much > 0 ? first : NONE;
            if (water[first] == 0) {
                sendBehindAll(0);
            }
            return much;
        }

        private void sendBehindAll(int from) {
            if (!coast.hasRiver(from)) {
                return;
            }
            int last = coast.rivers - 1;
            int river = row[from];
            for (int place = from; place < last; place++) {
                row[place] = row[place + 1];
            }
            row[last] = river;
        }

        private int sumOfRivers(int[] numbers) {
            int sum = 0;
            for (int river = 0; river < coast.rivers; river++) {
                sum += numbers[river];
            }
            return sum;
        }
    }

    /** What is seen of the hours to come. */
    private static final class Sightings {
        private final int[] hours = new int[MOST_SEEN];
        private final int[] rivers = new int[MOST_SEEN];
        private final boolean[] taken = new boolean[MOST_SEEN];
        private int size;

        boolean isFull() {
            return size >= MOST_SEEN;
        }

        int add(int hour, int river, boolean isTaken) {
            if (!isFull()) {
                hours[size] = hour;
                rivers[size] = river;
                taken[size] = isTaken;
                size++;
            }
            return size;
        }

        int clear() {
            int had = size;
            size = 0;
            return had;
        }

        void copyFrom(Sightings other) {
            for (int i = 0; i < MOST_SEEN; i++) {
                hours[i] = other.hours[i];
                rivers[i] = other.rivers[i];
                taken[i] = other.taken[i];
            }
            size = other.size;
        }

        /** Whether all would be so, if the sea took of these rivers, by the hour. */
        boolean agreeWith(int[] takenOf) {
            for (int i = 0; i < size; i++) {
                int hour = hours[i];
                boolean would = hour < takenOf.length && takenOf[hour] == rivers[i];
                if (would != taken[i]) {
                    return false;
                }
            }
            return true;
        }
    }

    /** Draws by a seed. */
    private static final class Draws {
        private int seed;

        int next(int choices) {
            seed = (int) ((1103515245L * seed + 12345L) & 0x7FFFFFFFL);
            return choices > 0 ? (seed >> 16) % choices : 0;
        }
    }

    /** What would be from now on, tried on a shore of its own. */
    private static final class Forecast {
        private final Coast coast;
        private final Shore now;
        private final Sightings seen;
        private final Shore trial;
        private final Draws draws = new Draws();
        /** Of which river the sea would take, by the hour from 1. */
        private final int[] takenOf = new int[SEEN_HOURS + 1];
        /** With how many of the possible waters the sea would take of one, by the hour from 1. */
        private final int[] takes = new int[SEEN_HOURS + 1];

        Forecast(Coast coast, Shore now, Sightings seen) {
            this.coast = coast;
            this.now = now;
            this.seen = seen;
            trial = new Shore(coast);
        }

        int waitsOf(int river) {
            trial.copyFrom(now);
            for (int hour = 1; hour <= MOST_HOURS; hour++) {
                trial.passHour();
                if (trial.takenOf == river) {
                    return hour;
                }
            }
            return NONE;
        }

        int widestHour(int hours) {
            trial.copyFrom(now);
            int widest = NONE;
            int most = NONE;
            for (int hour = 1; hour <= hours; hour++) {
                trial.passHour();
                int stands = trial.waterInAll();
                if (stands > most) {
                    most = stands;
                    widest = hour;
                }
            }
            return widest;
        }

        int waterBehind(int hours) {
            trial.copyFrom(now);
            for (int hour = 1; hour <= hours; hour++) {
                trial.passHour();
            }
            return trial.waterInAll();
        }

        int possibleWaters(int river) {
            int bits = 0;
            for (int much = 0; much <= MOST_GUESSED_WATER; much++) {
                if (isPossible(river, much)) {
                    bits |= 1 << much;
                }
            }
            return bits;
        }

        int hourToLook(int river) {
            int possible = 0;
            Arrays.fill(takes, 0);
            for (int much = 0; much <= MOST_GUESSED_WATER; much++) {
                if (isPossible(river, much)) {
                    possible++;
                    addTakes(river);
                }
            }
            return possible > 0 ? hourThatParts(possible) : NONE;
        }

        /** Answers how much the sea takes; the trial shore and the draws stay as they are then. */
        int passSeasons(int hours, int seed) {
            trial.copyFrom(now);
            draws.seed = seed;
            int taken = 0;
            for (int hour = 1; hour <= hours; hour++) {
                int much = draws.next(SEASON_RAINS);
                int river = draws.next(coast.rivers);
                trial.addWater(river, much);
                taken += trial.passHour();
            }
            return taken;
        }

        private void addTakes(int river) {
            for (int hour = 1; hour <= SEEN_HOURS; hour++) {
                if (takenOf[hour] == river) {
                    takes[hour]++;
                }
            }
        }

        /** The first hour of those in which a look leaves fewest of the possible waters at worst. */
        private int hourThatParts(int possible) {
            int look = NONE;
            int fewest = possible + 1;
            for (int hour = 1; hour <= SEEN_HOURS; hour++) {
                int left = Math.max(takes[hour], possible - takes[hour]);
                if (left < fewest) {
                    fewest = left;
                    look = hour;
                }
            }
            return look;
        }

        /** Whether all that is seen would be so with that water; fills takenOf. */
        private boolean isPossible(int river, int much) {
            trial.copyFrom(now);
            trial.water[river] = much;
            for (int hour = 1; hour <= SEEN_HOURS; hour++) {
                trial.passHour();
                takenOf[hour] = trial.takenOf;
            }
            return seen.agreeWith(takenOf);
        }
    }

    /** The search for the order of the row behind which least water would stand. */
    private static final class BestOrder {
        private final Coast coast;
        private final Shore now;
        private final Shore trial;
        private final int[] order = new int[MOST_RIVERS];
        private final int[] found = new int[MOST_RIVERS];
        private int least;

        BestOrder(Coast coast, Shore now) {
            this.coast = coast;
            this.now = now;
            trial = new Shore(coast);
        }

        /** Goes through all orders, the first by numbers first; fills found and least. */
        void find() {
            for (int place = 0; place < coast.rivers; place++) {
                order[place] = place;
            }
            keepAsFound(waterBehindOrder());
            for (int tried = 1; tried < MOST_ORDERS && goToNextOrder(); tried++) {
                int stands = waterBehindOrder();
                if (stands < least) {
                    keepAsFound(stands);
                }
            }
        }

        private void keepAsFound(int stands) {
            least = stands;
            System.arraycopy(order, 0, found, 0, MOST_RIVERS);
        }

        private int waterBehindOrder() {
            trial.copyFrom(now);
            System.arraycopy(order, 0, trial.row, 0, MOST_RIVERS);
            for (int hour = 1; hour <= BEST_HOURS; hour++) {
                trial.passHour();
            }
            return trial.waterInAll();
        }

        /** The next order by numbers; false behind the last one. */
        private boolean goToNextOrder() {
            int last = coast.rivers - 1;
            int turn = last - 1;
            while (turn >= 0 && order[turn] > order[turn + 1]) {
                turn--;
            }
            if (turn < 0) {
                return false;
            }
            int next = last;
            while (next > turn && order[next] < order[turn]) {
                next--;
            }
            swap(turn, next);
            for (int low = turn + 1, high = last; low < high; low++, high--) {
                swap(low, high);
            }
            return true;
        }

        private void swap(int one, int other) {
            int kept = order[one];
            order[one] = order[other];
            order[other] = kept;
        }
    }
}
