import java.util.function.ToLongFunction;

/** What every call by a WORD refuses, in the order that the document has: for the sentence at hand, on Scene.laid(). */
final class ByAWord {
    private static final int[] NO_SHELVES = {Integer.MIN_VALUE, -2, -1, 8, 9, Integer.MAX_VALUE};
    private static final int[] NO_VOICES = {Integer.MIN_VALUE, -2, -1, 6, 7, 8, Integer.MAX_VALUE};

    interface Call {
        long of(WellIsAskedFirst x, int s, int n);
    }

    interface CallWithNumber {
        long of(WellIsAskedFirst x, int s, int v);
    }

    interface CallWithTwo {
        long of(WellIsAskedFirst x, int s, int n, int p, int m);
    }

    private ByAWord() {
    }

    private static void refused(String what, int refusal, ToLongFunction<WellIsAskedFirst> call) {
        Edge.refused(what, Scene::laid, refusal, call);
    }

    /** SHELF, n (0 to most), OTHER, NOTHING, fewer elements, no SOUND. */
    static void refuses(int most, Call call) {
        for (int s : NO_SHELVES) {
            refused("SHELF " + s, Check.BAD, x -> call.of(x, s, 1));
        }
        for (int n : new int[] {Integer.MIN_VALUE, -2, -1, most + 1, most + 2, Integer.MAX_VALUE}) {
            refused("n " + n, Check.BAD, x -> call.of(x, Scene.FORTY, n));
            refused("BAD n ahead of OTHER, n " + n, Check.BAD, x -> call.of(x, Scene.A_VOICE, n));
            refused("BAD n ahead of NOTHING, n " + n, Check.BAD, x -> call.of(x, Scene.BARE, n));
            refused("BAD n ahead of STUCK, n " + n, Check.BAD, x -> call.of(x, Scene.TOO_HIGH, n));
        }
        for (int n : new int[] {0, 1, most}) {
            refused("OTHER, n " + n, Check.OTHER, x -> call.of(x, Scene.A_VOICE, n));
            refused("NOTHING, n " + n, Check.NOTHING, x -> call.of(x, Scene.BARE, n));
        }
        refused("fewer elements: 3 of 4", Check.BAD, x -> call.of(x, Scene.THREE, 4));
        refused("fewer elements: 0 of 1", Check.BAD, x -> call.of(x, Scene.EMPTY, 1));
        refused("fewer elements, ahead of STUCK", Check.BAD, x -> call.of(x, Scene.TOO_HIGH, 3));
        refused("40 is no SOUND", Check.STUCK, x -> call.of(x, Scene.TOO_HIGH, 2));
        refused("-1 is no SOUND", Check.STUCK, x -> call.of(x, Scene.TOO_LOW, 2));
    }

    /** The WORDS that just may be. */
    static void takes(int most, Call call) {
        Edge.answers("no element of none", Scene::laid, x -> call.of(x, Scene.EMPTY, 0));
        Edge.answers("all elements of three", Scene::laid, x -> call.of(x, Scene.THREE, 3));
        Edge.answers("the most there may be", Scene::laid, x -> call.of(x, Scene.FORTY, most));
        Edge.answers("the greatest SOUND", Scene::laid, x -> call.of(x, Scene.TOO_LOW, 1));
        Edge.answers("what stands behind the WORD is no matter", Scene::laid, x -> call.of(x, Scene.TOO_HIGH, 1));
    }

    static void refusesVoices(CallWithNumber call) {
        refusesNumbers("VOICE", NO_VOICES, call);
        Edge.refused("no VOICES", Scene::voiceless, Check.BAD, x -> call.of(x, Scene.WORD, 0));
        Edge.refused("no VOICE 8", Scene::full, Check.BAD, x -> call.of(x, Scene.WORD, 8));
        Edge.answers("the last VOICE", Scene::full, x -> call.of(x, Scene.WORD, 7));
    }

    /** Numbers that may not be: ahead of what the SHELF holds. */
    static void refusesNumbers(String name, int[] bad, CallWithNumber call) {
        for (int v : bad) {
            refused(name + " " + v, Check.BAD, x -> call.of(x, Scene.WORD, v));
            refused("BAD " + name + " ahead of OTHER, " + v, Check.BAD, x -> call.of(x, Scene.A_VOICE, v));
            refused("BAD " + name + " ahead of NOTHING, " + v, Check.BAD, x -> call.of(x, Scene.BARE, v));
            refused("BAD " + name + " ahead of STUCK, " + v, Check.BAD, x -> call.of(x, Scene.TOO_HIGH, v));
        }
    }

    /** By a WORD in SHELF s and the first elements of the ROW in SHELF p: m is 0 to most, each of it `each` elements. */
    static void refusesTwo(int most, int each, CallWithTwo call) {
        refuses(12, (x, s, n) -> call.of(x, s, n, Scene.FORTY, 1));
        for (int p : NO_SHELVES) {
            refused("SHELF p " + p, Check.BAD, x -> call.of(x, Scene.WORD, 1, p, 1));
            refused("BAD p ahead of OTHER, p " + p, Check.BAD, x -> call.of(x, Scene.A_VOICE, 1, p, 1));
            refused("BAD p ahead of NOTHING, p " + p, Check.BAD, x -> call.of(x, Scene.BARE, 1, p, 1));
        }
        for (int s : NO_SHELVES) {
            refused("BAD s ahead of OTHER, s " + s, Check.BAD, x -> call.of(x, s, 1, Scene.A_VOICE, 1));
            refused("BAD s ahead of NOTHING, s " + s, Check.BAD, x -> call.of(x, s, 1, Scene.BARE, 1));
        }
        int[] bad = {Integer.MIN_VALUE, Integer.MIN_VALUE + 1, -2, -1, most + 1, most + 2, Integer.MAX_VALUE, 1 << 30};
        for (int m : bad) {
            refused("m " + m, Check.BAD, x -> call.of(x, Scene.WORD, 1, Scene.FORTY, m));
            refused("BAD m ahead of OTHER, m " + m, Check.BAD, x -> call.of(x, Scene.WORD, 1, Scene.A_VOICE, m));
            refused("BAD m ahead of NOTHING, m " + m, Check.BAD, x -> call.of(x, Scene.WORD, 1, Scene.BARE, m));
            refused("BAD m ahead of STUCK, m " + m, Check.BAD, x -> call.of(x, Scene.TOO_HIGH, 2, Scene.FORTY, m));
        }
        refused("p a VOICE", Check.OTHER, x -> call.of(x, Scene.WORD, 1, Scene.A_VOICE, 0));
        refused("s NOTHING, p a VOICE", Check.OTHER, x -> call.of(x, Scene.BARE, 1, Scene.A_VOICE, 0));
        refused("s a VOICE, p NOTHING", Check.OTHER, x -> call.of(x, Scene.A_VOICE, 1, Scene.BARE, 0));
        refused("s too few, p a VOICE", Check.OTHER, x -> call.of(x, Scene.THREE, 4, Scene.A_VOICE, 0));
        refused("s no SOUND, p a VOICE", Check.OTHER, x -> call.of(x, Scene.TOO_HIGH, 2, Scene.A_VOICE, 0));
        refused("p NOTHING", Check.NOTHING, x -> call.of(x, Scene.WORD, 1, Scene.BARE, 0));
        refused("s too few, p NOTHING", Check.NOTHING, x -> call.of(x, Scene.THREE, 4, Scene.BARE, 0));
        refused("s no SOUND, p NOTHING", Check.NOTHING, x -> call.of(x, Scene.TOO_LOW, 2, Scene.BARE, 0));
        refused("s NOTHING, p too few", Check.NOTHING, x -> call.of(x, Scene.BARE, 1, Scene.EMPTY, 1));
        refused("p has none of one", Check.BAD, x -> call.of(x, Scene.WORD, 1, Scene.EMPTY, 1));
        refused("p has too few", Check.BAD, x -> call.of(x, Scene.WORD, 1, Scene.THREE, 3 / each + 1));
        refused("p has too few, s no SOUND", Check.BAD, x -> call.of(x, Scene.TOO_HIGH, 2, Scene.EMPTY, 1));
        refused("s has too few, p has enough", Check.BAD, x -> call.of(x, Scene.EMPTY, 1, Scene.FORTY, 1));
        Edge.answers("no element of p", Scene::laid, x -> call.of(x, Scene.WORD, 12, Scene.EMPTY, 0));
        Edge.answers("all of p", Scene::laid, x -> call.of(x, Scene.WORD, 12, Scene.THREE, 3 / each));
        Edge.answers("the most of p", Scene::laid, x -> call.of(x, Scene.WORD, 12, Scene.FORTY, most));
        Edge.answers("p need not have SOUNDS", Scene::laid, x -> call.of(x, Scene.WORD, 12, Scene.TOO_LOW, 2 / each));
        Edge.answers("one SHELF for both", Scene::laid, x -> call.of(x, Scene.THREE, 1, Scene.THREE, 1));
    }
}
