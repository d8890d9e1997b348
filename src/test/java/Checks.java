import java.util.Arrays;
import java.util.function.Supplier;
import java.util.function.ToIntFunction;

/** Counts the answers that are not due, and ends the test with exit code 1 if there was one. */
final class Checks {
    static final int NONE = -1, UNKNOWN = -101, OUTSIDE = -102, STATE = -103, FULL = -104;
    /** Numbers that name nothing, whatever is asked. */
    static final int[] WILD = {Integer.MIN_VALUE, Integer.MIN_VALUE + 1, -65536, -101, -2, -1, 127, 128, 256, 65536,
        Integer.MAX_VALUE - 1, Integer.MAX_VALUE};

    private final String test;
    private int done;
    private int wrong;

    Checks(String test) {
        this.test = test;
    }

    void due(String call, long got, long want) {
        done++;
        if (got != want) {
            wrong++;
            System.out.println(test + ": " + call + " answered " + got + ", due is " + want);
        }
    }

    void due(String call, boolean holds) {
        due(call, holds ? 1 : 0, 1);
    }

    void dueRow(String call, RiversQueue x, int... rivers) {
        for (int place = 0; place < rivers.length; place++) {
            due(call + ", row(" + place + ")", x.row(place), rivers[place]);
            due(call + ", place of " + rivers[place], x.river(rivers[place], 3), place);
        }
        due(call + ", row(" + rivers.length + ")", x.row(rivers.length), UNKNOWN);
    }

    /** A refused call changes nothing: neither what is told, nor the image. */
    void dueRefused(String call, Supplier<RiversQueue> made, ToIntFunction<RiversQueue> asked, int want) {
        RiversQueue x = made.get();
        Told before = Told.by(x);
        due(call, asked.applyAsInt(x), want);
        Told.by(x).dueAs(this, "refused " + call, before);
        // The image is told by restore() alone, so another object is asked that had no such call.
        RiversQueue twin = made.get();
        due("refused " + call + ", restore()", x.restore(), twin.restore());
        Told.by(x).dueAs(this, "refused " + call + " and restored", Told.by(twin));
    }

    void dueRefused(String call, Scene[] scenes, ToIntFunction<RiversQueue> asked, int want) {
        for (Scene scene : scenes) {
            dueRefused(scene + ": " + call, scene, asked, want);
        }
    }

    void end() {
        if (wrong > 0) {
            System.out.println(test + ": " + wrong + " of " + done + " answers are not as due");
            System.exit(1);
        }
    }

    static void write(RiversQueue x, String text) {
        for (int i = 0; i < text.length(); i++) {
            x.letter(text.charAt(i));
        }
    }

    static RiversQueue pageOf(String text) {
        RiversQueue x = new RiversQueue();
        write(x, text);
        return x;
    }

    static RiversQueue coastOf(String text) {
        RiversQueue x = pageOf(text);
        if (x.coast() < 0) {
            throw new IllegalArgumentException("no coast: " + text);
        }
        return x;
    }

    /** As read, and then rain: so much stands in each, if the text doesn't tell more. */
    static RiversQueue coastWith(String text, int... water) {
        RiversQueue x = coastOf(text);
        for (int river = 0; river < water.length; river++) {
            int lacks = water[river] - (text.charAt(4 * river + 1) - '0');
            for (int rain = Math.min(50, lacks); rain > 0; rain = Math.min(50, lacks)) {
                x.rain(river, rain);
                lacks -= rain;
            }
        }
        return x;
    }

    /** The numbers that name none of so many: the first one, the one ahead of 0, and wild ones. */
    static int[] beyond(int many) {
        int[] numbers = Arrays.copyOf(WILD, WILD.length + 2);
        numbers[WILD.length] = many;
        numbers[WILD.length + 1] = many + 1;
        return numbers;
    }

    /** The numbers outside of least to most: the next one on either side, and wild ones. */
    static int[] outside(int least, int most) {
        int[] numbers = beyond(most + 1);
        numbers[numbers.length - 1] = least - 1;
        return numbers;
    }
}
