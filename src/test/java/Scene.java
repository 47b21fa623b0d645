import java.util.function.Consumer;
import java.util.function.Supplier;

/** Wells that the document's sentences are looked at in, new each time. */
final class Scene {
    /** In laid(): a WORD of twelve good SOUNDS. */
    static final int WORD = 0;
    /** In laid(): a VOICE. */
    static final int A_VOICE = 1;
    /** In laid(): NOTHING. */
    static final int BARE = 2;
    /** In laid(): two elements; the second one is 40, no SOUND. */
    static final int TOO_HIGH = 3;
    /** In laid(): two elements; the second one is -1, no SOUND. */
    static final int TOO_LOW = 4;
    /** In laid(): three good SOUNDS. */
    static final int THREE = 5;
    /** In laid(): forty elements, all 0. */
    static final int FORTY = 6;
    /** In laid(): a ROW of no elements. */
    static final int EMPTY = 7;

    private Scene() {
    }

    static WellIsAskedFirst fresh() {
        return new WellIsAskedFirst();
    }

    /** Six VOICES, one of each KIND; shelves as told above; a text on THE TAPE; another well kept; some of each refusal. */
    static WellIsAskedFirst laid() {
        WellIsAskedFirst x = new WellIsAskedFirst();
        for (int kind = 0; kind < 6; kind++) {
            x.voice(kind, 9 - kind, 0);
        }
        x.tell(0, 33);
        x.pitch(3, 20);
        x.image();
        x.pitch(3, 0);
        x.tell(0, 10);
        x.seed(-7);
        row(x, WORD, Check.BYTES, 1, 4, 2, 0, 5, 6, 7, 8, 9, 10, 12, 13);
        x.show(A_VOICE, 0);
        row(x, TOO_HIGH, Check.BYTES, 1, 40);
        row(x, TOO_LOW, Check.LONGS, 39, -1);
        row(x, THREE, Check.BYTES, 1, 2, 3);
        x.row(FORTY, Check.INTS, 40);
        x.row(EMPTY, Check.LONGS, 0);
        feed(x, "rain 8");
        x.feed(-1);
        x.says(WORD, 0);
        x.set(BARE, 0, 0);
        x.ask(0, 2);
        return x;
    }

    /** As laid(), but with eight VOICES: no room for more. */
    static WellIsAskedFirst full() {
        WellIsAskedFirst x = laid();
        x.voice(Check.VOICE, 1, 20);
        x.voice(Check.VOICE, 1, 19);
        return x;
    }

    /** As laid(), but without VOICES (what is kept has none, either). */
    static WellIsAskedFirst voiceless() {
        WellIsAskedFirst x = new WellIsAskedFirst();
        x.image();
        row(x, WORD, Check.BYTES, 1, 4, 2, 0, 5, 6, 7, 8, 9, 10, 12, 13);
        row(x, TOO_HIGH, Check.BYTES, 1, 40);
        return x;
    }

    /** One VOICE; SHELF 0 holds twelve SOUNDS 0: each comes back as a third of DEPTH and PITCH together. */
    static Supplier<WellIsAskedFirst> thirds(int kind, int pitch, int depth, int rain) {
        return () -> {
            WellIsAskedFirst x = new WellIsAskedFirst();
            x.voice(kind, 0, pitch);
            x.row(0, Check.BYTES, 12);
            x.tell(0, depth);
            x.tell(1, rain);
            return x;
        };
    }

    static Supplier<WellIsAskedFirst> but(Supplier<WellIsAskedFirst> scene, Consumer<WellIsAskedFirst> change) {
        return () -> {
            WellIsAskedFirst x = scene.get();
            change.accept(x);
            return x;
        };
    }

    static void row(WellIsAskedFirst x, int s, int sort, long... elements) {
        x.row(s, sort, elements.length);
        for (int i = 0; i < elements.length; i++) {
            x.set(s, i, elements[i]);
        }
    }

    static void feed(WellIsAskedFirst x, String text) {
        for (int i = 0; i < text.length(); i++) {
            x.feed(text.charAt(i));
        }
    }
}
