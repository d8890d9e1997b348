import java.util.ArrayList;
import java.util.List;
import java.util.regex.Matcher;
import java.util.regex.Pattern;

/** The document told a second time, as slowly and as plainly as it goes, to compare answers with. */
final class SlowCoast {
    private static final Pattern COAST = Pattern.compile("[rfbot][0-9][0-5](,[rfbot][0-9][0-5]){1,4};[1-9]");

    private static class River {
        final int number;
        final int flow;
        int water;
        int took;

        River(int number, int water, int flow) {
            this.number = number;
            this.water = water;
            this.flow = flow;
        }

        static River of(String text, int number) {
            int water = text.charAt(1) - '0';
            int flow = text.charAt(2) - '0';
            switch (text.charAt(0)) {
                case 'f': return new Flood(number, water, flow);
                case 'b': return new Brook(number, water, flow);
                case 'o': return new Old(number, water, flow);
                case 't': return new Torrent(number, water, flow);
                default: return new River(number, water, flow);
            }
        }

        River copy() {
            River copy = of("" + "rfbot".charAt(kind()) + 0 + flow, number);
            copy.water = water;
            copy.took = took;
            return copy;
        }

        int kind() {
            return 0;
        }

        boolean is(int kind) {
            return kind == 0;
        }

        boolean pushesBy(River ahead) {
            return ahead instanceof Old ? water > 0 : pushesByYoung(ahead);
        }

        boolean pushesByYoung(River ahead) {
            return water > ahead.water + ahead.water;
        }
    }

    private static class Flood extends River {
        Flood(int number, int water, int flow) {
            super(number, water, flow);
        }

        @Override int kind() {
            return 1;
        }

        @Override boolean is(int kind) {
            return kind == 1 || super.is(kind);
        }

        @Override boolean pushesByYoung(River ahead) {
            return water > ahead.water;
        }
    }

    private static final class Torrent extends Flood {
        Torrent(int number, int water, int flow) {
            super(number, water, flow);
        }

        @Override int kind() {
            return 4;
        }

        @Override boolean is(int kind) {
            return kind == 4 || super.is(kind);
        }

        @Override boolean pushesByYoung(River ahead) {
            return water >= ahead.water;
        }
    }

    private static final class Brook extends River {
        Brook(int number, int water, int flow) {
            super(number, water, flow);
        }

        @Override int kind() {
            return 2;
        }

        @Override boolean is(int kind) {
            return kind == 2 || super.is(kind);
        }

        @Override boolean pushesByYoung(River ahead) {
            return false;
        }
    }

    private static final class Old extends River {
        Old(int number, int water, int flow) {
            super(number, water, flow);
        }

        @Override int kind() {
            return 3;
        }

        @Override boolean is(int kind) {
            return kind == 3 || super.is(kind);
        }

        @Override boolean pushesBy(River ahead) {
            return false;
        }
    }

    private record Sighting(int hour, int river, boolean taken) {
    }

    /** The rivers in their row, and all that an image keeps. */
    private static final class State {
        final int bar;
        final List<River> row = new ArrayList<>();
        final List<Sighting> seen = new ArrayList<>();
        int hours;

        State(int bar) {
            this.bar = bar;
        }

        State copy() {
            State copy = new State(bar);
            for (River river : row) {
                copy.row.add(river.copy());
            }
            copy.seen.addAll(seen);
            copy.hours = hours;
            return copy;
        }

        River get(int number) {
            for (River river : row) {
                if (river.number == number) {
                    return river;
                }
            }
            return null;
        }

        int water() {
            return row.stream().mapToInt(river -> river.water).sum();
        }

        int took() {
            return row.stream().mapToInt(river -> river.took).sum();
        }

        int hour() {
            for (River river : row) {
                river.water = Math.min(99, river.water + river.flow);
            }
            for (River river : new ArrayList<>(row)) {
                int place = row.indexOf(river);
                if (place > 0 && river.pushesBy(row.get(place - 1))) {
                    row.remove(place);
                    row.add(place - 1, river);
                }
            }
            River first = row.get(0);
            int much = Math.min(bar, first.water);
            first.water -= much;
            first.took += much;
            if (first.water == 0) {
                row.remove(0);
                row.add(first);
            }
            hours++;
            return much;
        }
    }

    private String page = "";
    private State now;
    private State kept;
    private int read;
    private int bests;

    private int rivers() {
        return now == null ? 0 : now.row.size();
    }

    private boolean unknown(int river) {
        return river < 0 || river >= rivers();
    }

    int letter(int code) {
        if (code < 1 || code > 126) {
            return Checks.OUTSIDE;
        }
        if (page.length() == 24) {
            return Checks.FULL;
        }
        page += (char) code;
        return page.length();
    }

    int blank() {
        int had = page.length();
        page = "";
        return had;
    }

    /** A text begins a coast, if the pattern could match with more letters behind it. */
    int fault() {
        for (int end = 1; end <= page.length(); end++) {
            Matcher matcher = COAST.matcher(page.substring(0, end));
            if (!matcher.matches() && !matcher.hitEnd()) {
                return end - 1;
            }
        }
        return page.length();
    }

    int coast() {
        if (!COAST.matcher(page).matches()) {
            return Checks.STATE;
        }
        String[] halves = page.split(";");
        now = new State(Integer.parseInt(halves[1]));
        for (String river : halves[0].split(",")) {
            now.row.add(River.of(river, now.row.size()));
        }
        kept = null;
        page = "";
        read++;
        return rivers();
    }

    int river(int river, int what) {
        if (unknown(river)) {
            return Checks.UNKNOWN;
        }
        switch (what) {
            case 0: return now.get(river).kind();
            case 1: return now.get(river).water;
            case 2: return now.get(river).flow;
            case 3: return now.row.indexOf(now.get(river));
            case 4: return now.get(river).took;
            case 5: return firstTaken(river);
            case 6: return bits(river);
            case 7: return look(river);
            default: return Checks.OUTSIDE;
        }
    }

    private int firstTaken(int river) {
        for (int hours = 1; hours <= 60; hours++) {
            if (wouldTake(now, river, hours)) {
                return hours;
            }
        }
        return Checks.NONE;
    }

    private static boolean wouldTake(State from, int river, int hour) {
        State would = from.copy();
        int had = 0;
        for (int i = 0; i < hour; i++) {
            had = would.get(river).took;
            would.hour();
        }
        return would.get(river).took > had;
    }

    private State with(int river, int water) {
        State with = now.copy();
        with.get(river).water = water;
        return with;
    }

    private int bits(int river) {
        int bits = 0;
        for (int water = 0; water <= 9; water++) {
            State with = with(river, water);
            if (now.seen.stream().allMatch(s -> wouldTake(with, s.river, s.hour) == s.taken)) {
                bits += 1 << water;
            }
        }
        return bits;
    }

    private int look(int river) {
        int possible = bits(river);
        int best = Checks.NONE;
        int fewest = Integer.MAX_VALUE;
        for (int hour = 1; hour <= 12 && possible != 0; hour++) {
            int yes = 0;
            int no = 0;
            for (int water = 0; water <= 9; water++) {
                if ((possible >> water & 1) == 1) {
                    if (wouldTake(with(river, water), river, hour)) {
                        yes++;
                    } else {
                        no++;
                    }
                }
            }
            if (Math.max(yes, no) < fewest) {
                fewest = Math.max(yes, no);
                best = hour;
            }
        }
        return best;
    }

    int as(int river, int kind) {
        if (unknown(river)) {
            return Checks.UNKNOWN;
        }
        if (kind < 0 || kind > 4) {
            return Checks.OUTSIDE;
        }
        return now.get(river).is(kind) ? river : Checks.NONE;
    }

    int row(int place) {
        return unknown(place) ? Checks.UNKNOWN : now.row.get(place).number;
    }

    int hour() {
        return now == null ? Checks.STATE : now.hour();
    }

    int rain(int river, int much) {
        if (unknown(river)) {
            return Checks.UNKNOWN;
        }
        if (much < 1 || much > 50) {
            return Checks.OUTSIDE;
        }
        now.get(river).water = Math.min(99, now.get(river).water + much);
        return now.get(river).water;
    }

    int drought(int number) {
        if (unknown(number)) {
            return Checks.UNKNOWN;
        }
        River river = now.get(number);
        int had = river.water;
        river.water = 0;
        now.row.remove(river);
        now.row.add(river);
        return had;
    }

    int wide(int hours, int what) {
        if (hours < 1 || hours > 60 || what < 0 || what > 1) {
            return Checks.OUTSIDE;
        }
        if (now == null) {
            return Checks.STATE;
        }
        State would = now.copy();
        List<Integer> stands = new ArrayList<>();
        for (int hour = 1; hour <= hours; hour++) {
            would.hour();
            stands.add(would.water());
        }
        int most = stands.stream().max(Integer::compare).get();
        return what == 0 ? most : stands.indexOf(most) + 1;
    }

    int best(int what) {
        if (what != 0 && (what < 10 || what > 14)) {
            return Checks.OUTSIDE;
        }
        if (now == null || bests == 30) {
            return Checks.STATE;
        }
        bests++;
        List<List<Integer>> orders = new ArrayList<>();
        addOrders(orders, new ArrayList<>(), rivers());
        List<Integer> best = null;
        int least = Integer.MAX_VALUE;
        for (List<Integer> order : orders) {
            int stands = standsBehindTen(order);
            if (stands < least) {
                least = stands;
                best = order;
            }
        }
        if (what == 0) {
            return least;
        }
        return what - 10 < rivers() ? best.get(what - 10) : Checks.NONE;
    }

    private static void addOrders(List<List<Integer>> orders, List<Integer> begun, int rivers) {
        if (begun.size() == rivers) {
            orders.add(new ArrayList<>(begun));
        }
        for (int river = 0; river < rivers; river++) {
            if (!begun.contains(river)) {
                begun.add(river);
                addOrders(orders, begun, rivers);
                begun.remove(begun.size() - 1);
            }
        }
    }

    private int standsBehindTen(List<Integer> order) {
        State from = now.copy();
        State would = new State(now.bar);
        for (int river : order) {
            would.row.add(from.get(river));
        }
        for (int hour = 1; hour <= 10; hour++) {
            would.hour();
        }
        return would.water();
    }

    int see(int hour, int river, boolean taken) {
        if (hour < 1 || hour > 12) {
            return Checks.OUTSIDE;
        }
        if (unknown(river)) {
            return Checks.UNKNOWN;
        }
        if (now.seen.size() == 6) {
            return Checks.FULL;
        }
        now.seen.add(new Sighting(hour, river, taken));
        return now.seen.size();
    }

    int forget() {
        int had = count(5);
        if (now != null) {
            now.seen.clear();
        }
        return had;
    }

    int seasons(int hours, int seed, int what) {
        if (hours < 1 || hours > 60 || seed < 0 || what < 0 || what > 2) {
            return Checks.OUTSIDE;
        }
        if (now == null) {
            return Checks.STATE;
        }
        State would = now.copy();
        long draw = seed;
        int taken = 0;
        for (int hour = 1; hour <= hours; hour++) {
            draw = (1103515245L * draw + 12345) % (1L << 31);
            int much = (int) (draw / 65536 % 4);
            draw = (1103515245L * draw + 12345) % (1L << 31);
            River river = would.get((int) (draw / 65536 % rivers()));
            river.water = Math.min(99, river.water + much);
            taken += would.hour();
        }
        return what == 0 ? taken : what == 1 ? would.water() : (int) draw;
    }

    int image() {
        if (now == null) {
            return Checks.STATE;
        }
        kept = now.copy();
        return now.hours;
    }

    int restore() {
        if (kept == null) {
            return Checks.STATE;
        }
        now = kept.copy();
        return now.hours;
    }

    int count(int what) {
        if (what < 0 || what > 8) {
            return Checks.OUTSIDE;
        }
        if (what >= 6) {
            return what == 6 ? page.length() : what == 7 ? read : bests;
        }
        if (now == null) {
            return 0;
        }
        int[] counts = {rivers(), now.bar, now.water(), now.hours, now.took(), now.seen.size()};
        return counts[what];
    }

    long digest() {
        List<Long> numbers = new ArrayList<>();
        for (int river = 0; river < rivers(); river++) {
            for (int what = 0; what < 8; what++) {
                numbers.add((long) river(river, what));
            }
        }
        for (int place = 0; place < rivers(); place++) {
            numbers.add((long) row(place));
        }
        if (now != null) {
            numbers.add((long) wide(12, 0));
            numbers.add((long) wide(12, 1));
        }
        for (char letter : page.toCharArray()) {
            numbers.add((long) letter);
        }
        for (int what = 0; what < 9; what++) {
            numbers.add((long) count(what));
        }
        return numbers.stream().reduce(971L, (h, number) -> 31 * h + number);
    }
}
