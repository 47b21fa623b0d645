import java.util.function.LongSupplier;

/** What the tests share: counts answers that are due, and lays rows and tapes. */
final class Check {
    static final int NONE = -1;
    static final int BAD = -2;
    static final int OTHER = -3;
    static final int NOTHING = -4;
    static final int STUCK = -5;
    static final int FULL = -6;

    static final int VOICE = 0;
    static final int DEEP = 1;
    static final int STUTTERER = 2;
    static final int PRIEST = 3;
    static final int PROPHET = 4;
    static final int CHILD = 5;

    static final int BYTES = 0;
    static final int SHORTS = 1;
    static final int INTS = 2;
    static final int LONGS = 3;
    static final int BOOLEANS = 4;

    private static int right;
    private static int wrong;

    private Check() {
    }

    static void due(String what, long got, long want) {
        if (got == want) {
            right++;
        } else {
            wrong++;
            System.out.println(what + ": answered " + got + ", due is " + want);
        }
    }

    static void holds(String what, boolean so) {
        due(what, so ? 1 : 0, 1);
    }

    /** The call answers a refusal and counts it (ModelTest looks at all that must not change then). */
    static void refused(String what, WellIsAskedFirst x, int refusal, LongSupplier call) {
        int[] before = refusals(x);
        due(what, call.getAsLong(), refusal);
        int[] after = refusals(x);
        before[-2 - refusal]++;
        for (int i = 0; i < before.length; i++) {
            due(what + ", then refusals " + (-2 - i), after[i], before[i]);
        }
    }

    /** The call answers just that and refuses nothing. */
    static void granted(String what, WellIsAskedFirst x, long want, LongSupplier call) {
        int[] before = refusals(x);
        due(what, call.getAsLong(), want);
        int[] after = refusals(x);
        for (int i = 0; i < before.length; i++) {
            due(what + ", then refusals " + (-2 - i), after[i], before[i]);
        }
    }

    static int[] refusals(WellIsAskedFirst x) {
        int[] counts = new int[5];
        for (int i = 0; i < counts.length; i++) {
            counts[i] = x.status(12 + i);
        }
        return counts;
    }

    static void lay(WellIsAskedFirst x, int s, int sort, long... elements) {
        due("row(" + s + ")", x.row(s, sort, elements.length), 1);
        for (int i = 0; i < elements.length; i++) {
            due("set(" + s + ", " + i + ")", x.set(s, i, elements[i]), 1);
        }
    }

    static void feed(WellIsAskedFirst x, String text) {
        for (int i = 0; i < text.length(); i++) {
            x.feed(text.charAt(i));
        }
    }

    /** A well with one VOICE of each KIND, each of a PITCH; DEPTH is 10. */
    static WellIsAskedFirst wellOfAllKinds(int pitch) {
        WellIsAskedFirst x = new WellIsAskedFirst();
        for (int kind = VOICE; kind <= CHILD; kind++) {
            due("voice of kind " + kind, x.voice(kind, kind, pitch), kind);
        }
        return x;
    }

    static WellIsAskedFirst wellOf(int kind, int pitch) {
        WellIsAskedFirst x = new WellIsAskedFirst();
        due("voice of kind " + kind, x.voice(kind, 0, pitch), 0);
        return x;
    }

    static void end(String test) {
        System.out.println(test + ": " + right + " passed, " + wrong + " failed");
        if (wrong > 0 || right == 0) {
            System.exit(1);
        }
    }
}
