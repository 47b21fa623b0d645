import java.util.Arrays;
import java.util.function.Supplier;

/** The sentences on A SHOUT, and those of promises 17, 18, 28, 45, 46 and 47: what needs no told word. */
final class EdgeVoices {
    private static final int[] NO_VOICES = {Integer.MIN_VALUE, -2, -1, 6, 7, 8, Integer.MAX_VALUE};

    private EdgeVoices() {
    }

    static void run() {
        words();
        lostSounds();
        whatComesBack();
        echoes();
        echoesByKind();
        weighedEchoes();
        aDay();
        promise17();
        promise18();
        promise28();
        promise28Refuses();
        promise45();
        promise46();
        promise47();
    }

    private static void words() {
        Edge.sentence(Edge.SHOUT, "A WORD is a ROW of SOUNDS (0 to 39), 0 to 12 of them.");
        Supplier<WellIsAskedFirst> scene = Scene.but(Scene::laid, x -> Scene.row(x, 0, Check.LONGS, 0, 39));
        Edge.answers("0 and 39", scene, x -> x.heard(0, 2));
        Edge.answers("none", scene, x -> x.heard(0, 0));
        for (long sound : new long[] {40, -1, 41, 255, 1L << 32, Long.MIN_VALUE, Long.MAX_VALUE}) {
            Supplier<WellIsAskedFirst> no = Scene.but(scene, x -> x.set(0, 1, sound));
            Edge.refused("no SOUND " + sound, no, Check.STUCK, x -> x.heard(0, 2));
            Edge.answers("what stands behind is no matter, " + sound, no, x -> x.heard(0, 1));
        }
        Edge.answers("twelve", Scene::laid, x -> x.heard(Scene.FORTY, 12));
        Edge.refused("thirteen", Scene::laid, Check.BAD, x -> x.heard(Scene.FORTY, 13));
        Edge.refused("less than none", Scene::laid, Check.BAD, x -> x.heard(Scene.FORTY, -1));
    }

    private static void backIs(int kind, int pitch, int depth, int sound, int want) {
        Edge.asked("SOUND " + sound + " at " + depth + " by " + pitch + " of KIND " + kind,
            Scene.thirds(kind, pitch, depth, 1), want, x -> x.back(0, sound));
    }

    private static void lostSounds() {
        Edge.sentence(Edge.SHOUT, "A SOUND s, by a PITCH, at a DEPTH: it is LOST, if s and DEPTH together are a multiple of 7;");
        backIs(Check.VOICE, 0, 0, 0, Check.NONE);
        backIs(Check.VOICE, 0, 0, 7, Check.NONE);
        backIs(Check.VOICE, 0, 0, 35, Check.NONE);
        backIs(Check.VOICE, 0, 7, 0, Check.NONE);
        backIs(Check.VOICE, 0, 1, 6, Check.NONE);
        backIs(Check.VOICE, 0, 38, 39, Check.NONE);
        backIs(Check.VOICE, 0, 40, 37, Check.NONE);
        backIs(Check.VOICE, 20, 40, 2, Check.NONE);
        backIs(Check.VOICE, 0, 0, 1, 1);
        backIs(Check.VOICE, 0, 0, 6, 6);
        backIs(Check.VOICE, 0, 0, 39, 39);
        backIs(Check.VOICE, 0, 0, 34, 34);
        // It is not PITCH that is counted with s: 7 is no DEPTH here.
        backIs(Check.VOICE, 7, 1, 0, 2);
    }

    private static void whatComesBack() {
        Edge.sentence(Edge.SHOUT, "else it comes back as the sum, modulo 40, of s and of a third of DEPTH and PITCH together "
            + "(cut) times the sum of 1 and s modulo 3.");
        backIs(Check.VOICE, 2, 0, 39, 39);
        backIs(Check.VOICE, 3, 0, 39, 0);
        backIs(Check.VOICE, 3, 0, 38, 1);
        backIs(Check.VOICE, 3, 0, 37, 39);
        backIs(Check.VOICE, 1, 1, 0, 0);
        backIs(Check.VOICE, 1, 2, 0, 1);
        backIs(Check.VOICE, 1, 2, 1, 3);
        backIs(Check.VOICE, 1, 2, 2, 5);
        backIs(Check.VOICE, 1, 2, 3, 4);
        backIs(Check.VOICE, 2, 2, 0, 1);
        backIs(Check.VOICE, 3, 2, 0, 1);
        backIs(Check.VOICE, 4, 2, 0, 2);
        // A third of 60 is 20: once, twice and thrice.
        backIs(Check.VOICE, 20, 40, 39, 19);
        backIs(Check.VOICE, 20, 40, 34, 34);
        backIs(Check.VOICE, 20, 40, 38, 18);
        backIs(Check.VOICE, 19, 40, 39, 18);
        // By far the highest PITCH there is: a third of 40 and 20 and 999 is 353.
        Supplier<WellIsAskedFirst> late = Scene.but(Scene.thirds(Check.CHILD, 20, 40, 1), x -> x.tell(2, 9999));
        Edge.asked("353 once", late, (39 + 353) % 40, x -> x.back(0, 39));
        Edge.asked("353 twice", late, (34 + 706) % 40, x -> x.back(0, 34));
        Edge.asked("353 thrice", late, (38 + 1059) % 40, x -> x.back(0, 38));
    }

    private static void echoIs(int kind, int pitch, int depth, long[] word, long... want) {
        Supplier<WellIsAskedFirst> scene = Scene.but(Scene.thirds(kind, pitch, depth, 1), x -> Scene.row(x, 0, Check.BYTES, word));
        String what = Arrays.toString(word) + " at " + depth + " by " + pitch + " of KIND " + kind;
        Edge.asked(what + ": how many", scene, want.length, x -> x.echo(0, word.length, 0, Check.NONE));
        for (int i = 0; i < want.length; i++) {
            int at = i;
            Edge.asked(what + ": place " + i, scene, want[i], x -> x.echo(0, word.length, 0, at));
        }
    }

    private static long[] word(long... sounds) {
        return sounds;
    }

    private static void echoes() {
        Edge.sentence(Edge.SHOUT, "ECHO of a WORD by a VOICE: all SOUNDS that come back, in order. VOICE: as told.");
        echoIs(Check.VOICE, 0, 10, word());
        echoIs(Check.VOICE, 0, 10, word(4));
        echoIs(Check.VOICE, 0, 10, word(4, 11, 18));
        echoIs(Check.VOICE, 0, 10, word(1, 4, 2), 7, 11);
        echoIs(Check.VOICE, 0, 10, word(4, 2, 1, 4), 11, 7);
        echoIs(Check.VOICE, 0, 10, word(0, 1, 2, 3, 5, 6, 7, 8, 9, 10, 12, 13), 3, 7, 11, 6, 14, 9, 13, 17, 12, 16, 15, 19);
        Edge.sentence(Edge.SHOUT, "DEEP: none is LOST.");
        for (int depth = 0; depth <= 40; depth++) {
            Edge.asked("at " + depth, Scene.thirds(Check.DEEP, 0, depth, 1), 0, x -> x.lost(0));
        }
        echoIs(Check.DEEP, 0, 10, word());
        echoIs(Check.DEEP, 0, 10, word(1, 4, 2), 7, 10, 11);
        echoIs(Check.DEEP, 0, 0, word(0), 0);
    }

    private static void echoesByKind() {
        Edge.sentence(Edge.SHOUT, "PRIEST: as DEEP, but as if DEPTH were half as much (cut).");
        for (int depth = 0; depth <= 40; depth++) {
            Edge.asked("none is LOST at " + depth, Scene.thirds(Check.PRIEST, 0, depth, 1), 0, x -> x.lost(0));
        }
        backIs(Check.PRIEST, 2, 0, 0, 0);
        backIs(Check.PRIEST, 2, 1, 0, 0);
        backIs(Check.PRIEST, 2, 2, 0, 1);
        backIs(Check.PRIEST, 2, 7, 0, 1);
        backIs(Check.PRIEST, 2, 8, 0, 2);
        backIs(Check.PRIEST, 2, 39, 0, 7);
        backIs(Check.PRIEST, 1, 40, 0, 7);
        echoIs(Check.PRIEST, 0, 11, word(1, 4, 2), 3, 6, 5);
        Edge.sentence(Edge.SHOUT, "STUTTERER: the first SOUND is shouted twice.");
        echoIs(Check.STUTTERER, 0, 10, word());
        echoIs(Check.STUTTERER, 0, 10, word(1), 7, 7);
        echoIs(Check.STUTTERER, 0, 10, word(4));
        echoIs(Check.STUTTERER, 0, 10, word(4, 1), 7);
        echoIs(Check.STUTTERER, 0, 10, word(1, 4), 7, 7);
        echoIs(Check.STUTTERER, 0, 10, word(1, 2), 7, 7, 11);
        long[] twelve = word(0, 1, 2, 3, 5, 6, 7, 8, 9, 10, 12, 13);
        echoIs(Check.STUTTERER, 0, 10, twelve, 3, 3, 7, 11, 6, 14, 9, 13, 17, 12, 16, 15, 19);
        Edge.sentence(Edge.SHOUT, "PROPHET: as STUTTERER; what comes back comes the last first.");
        echoIs(Check.PROPHET, 0, 10, word());
        echoIs(Check.PROPHET, 0, 10, word(4));
        echoIs(Check.PROPHET, 0, 10, word(1), 7, 7);
        echoIs(Check.PROPHET, 0, 10, word(4, 1), 7);
        echoIs(Check.PROPHET, 0, 10, word(1, 2), 11, 7, 7);
        echoIs(Check.PROPHET, 0, 10, word(4, 1, 2), 11, 7);
        echoIs(Check.PROPHET, 0, 10, word(1, 2, 0), 3, 11, 7, 7);
        echoIs(Check.PROPHET, 0, 10, twelve, 19, 15, 16, 12, 17, 13, 9, 14, 6, 11, 7, 3, 3);
        Edge.sentence(Edge.SHOUT, "CHILD: by its PITCH and a tenth of DAY (cut) together.");
        int[] days = {0, 9, 10, 19, 20, 49, 50, 9989, 9990, 9999};
        int[] want = {3, 3, 4, 4, 4, 5, 5, 336 % 40, 336 % 40, 336 % 40};
        for (int i = 0; i < days.length; i++) {
            int day = days[i];
            Supplier<WellIsAskedFirst> scene = Scene.but(Scene.thirds(Check.CHILD, 1, 10, 1), x -> x.tell(2, day));
            Edge.asked("on " + day, scene, want[i], x -> x.back(0, 0));
        }
        echoIs(Check.CHILD, 0, 10, word(1, 4, 2), 7, 11);
    }

    private static void weighedEchoes() {
        Edge.sentence(Edge.SHOUT, "WEIGHED: NONE, if nothing comes back (VOID); else 1 (YES), if all SOUNDS of the ECHO together "
            + "are REST modulo WEIGHT; else 0.");
        Supplier<WellIsAskedFirst> lost = Scene.thirds(Check.VOICE, 0, 0, 1);
        Edge.asked("no SOUND", lost, Check.NONE, x -> x.weighed(0, 0, 0));
        Edge.asked("no SOUND that comes back", lost, Check.NONE, x -> x.weighed(0, 12, 0));
        Edge.asked("0 that comes back", Scene.thirds(Check.DEEP, 0, 0, 1), 1, x -> x.weighed(0, 1, 0));
        for (int weight = 2; weight <= 9; weight++) {
            for (int rest = 0; rest < weight; rest++) {
                int w = weight;
                int r = rest;
                // 13 and twelve times 13.
                Supplier<WellIsAskedFirst> deep = Scene.but(Scene.thirds(Check.DEEP, 0, 40, 1), x -> x.weigh(w, r));
                Edge.asked("13 by " + w + ", " + r, deep, 13 % w == r ? 1 : 0, x -> x.weighed(0, 1, 0));
                Edge.asked("156 by " + w + ", " + r, deep, 156 % w == r ? 1 : 0, x -> x.weighed(0, 12, 0));
            }
        }
    }

    private static void dayIs(int depth, int rain, int then) {
        Supplier<WellIsAskedFirst> scene = Scene.thirds(Check.VOICE, 0, depth, rain);
        Edge.asked("ahead, from " + depth + " by " + rain, scene, then, x -> x.ahead(1));
        WellIsAskedFirst x = scene.get();
        Edge.granted("in truth, from " + depth + " by " + rain, x, then, y -> y.days(1));
        Edge.due("RAIN stays", x.status(2), rain);
    }

    private static void aDay() {
        Edge.sentence(Edge.SHOUT, "A DAY: DEPTH is 1 more, less RAIN (0 at least, 40 at most);");
        dayIs(0, 0, 1);
        dayIs(0, 1, 0);
        dayIs(0, 2, 0);
        dayIs(0, 9, 0);
        dayIs(7, 9, 0);
        dayIs(8, 9, 0);
        dayIs(9, 9, 1);
        dayIs(39, 0, 40);
        dayIs(40, 0, 40);
        dayIs(40, 1, 40);
        dayIs(40, 2, 39);
        dayIs(40, 9, 32);
        Edge.sentence(Edge.SHOUT, "DAY is 1 more (9999 at most).");
        int[] days = {0, 9997, 9998, 9999};
        int[] then = {1, 9998, 9999, 9999};
        for (int i = 0; i < days.length; i++) {
            WellIsAskedFirst x = new WellIsAskedFirst();
            x.tell(2, days[i]);
            x.days(1);
            Edge.due("behind " + days[i], x.status(3), then[i]);
        }
    }

    private static void promise17() {
        Edge.sentence("17", "What a SOUND comes back as, by a VOICE, now; NONE: it is LOST.");
        Edge.asked("the first", Scene::laid, 3, x -> x.back(0, 0));
        Edge.asked("the last, of a DEEP one", Scene::laid, 2, x -> x.back(1, 39));
        Edge.asked("by the last VOICE", Scene::full, (0 + 29 / 3) % 40, x -> x.back(7, 0));
        Edge.sentence("17", "BAD.");
        for (int voice : NO_VOICES) {
            Edge.refused("VOICE " + voice, Scene::laid, Check.BAD, x -> x.back(voice, 0));
        }
        for (int sound : new int[] {Integer.MIN_VALUE, -2, -1, 40, 41, Integer.MAX_VALUE}) {
            Edge.refused("SOUND " + sound, Scene::laid, Check.BAD, x -> x.back(0, sound));
        }
        Edge.refused("no VOICE 8", Scene::full, Check.BAD, x -> x.back(8, 0));
        Edge.sentence("17", "(NONE isn't refused.)");
        Edge.asked("LOST", Scene::laid, Check.NONE, x -> x.back(0, 4));
        Edge.asked("LOST, the last", Scene::laid, Check.NONE, x -> x.back(0, 39));
    }

    private static void promise18() {
        Edge.sentence("18", "SOUNDS (of 40) that are LOST for a VOICE now: how many.");
        for (int kind : new int[] {Check.VOICE, Check.STUTTERER, Check.PROPHET, Check.CHILD}) {
            for (int depth = 0; depth <= 40; depth++) {
                // Five times 7 are 35 SOUNDS; of the last five one is LOST, if it is 35 to 39 and DEPTH.
                int more = 0;
                for (int sound = 35; sound < 40; sound++) {
                    more += (sound + depth) % 7 == 0 ? 1 : 0;
                }
                Edge.asked("at " + depth, Scene.thirds(kind, 20, depth, 1), 5 + more, x -> x.lost(0));
            }
        }
        Edge.sentence("18", "BAD.");
        for (int voice : NO_VOICES) {
            Edge.refused("VOICE " + voice, Scene::laid, Check.BAD, x -> x.lost(voice));
        }
        Edge.refused("no VOICE 8", Scene::full, Check.BAD, x -> x.lost(8));
    }

    private static Supplier<WellIsAskedFirst> asking(int kind, int pitch, int depth, int w, int r) {
        return Scene.but(Scene.thirds(kind, pitch, depth, 1), x -> x.weigh(w, r));
    }

    /** No WORD of 1 or 2 SOUNDS gets YES: by a third of 117, which is 39, none and no two are a multiple of 9. */
    private static Supplier<WellIsAskedFirst> hopeless() {
        return Scene.but(asking(Check.CHILD, 0, 10, 9, 0), x -> x.tell(2, 1070));
    }

    private static void askIs(String what, Supplier<WellIsAskedFirst> scene, int... word) {
        Edge.asked(what + ": how many", scene, word.length == 0 ? Check.NONE : word.length, x -> x.ask(0, Check.NONE));
        for (int i = 0; i < word.length; i++) {
            int at = i;
            Edge.asked(what + ": place " + i, scene, word[i], x -> x.ask(0, at));
        }
        Edge.refused(what + ": not so many", scene, Check.STUCK, x -> x.ask(0, word.length));
    }

    private static void promise28() {
        Edge.sentence(Edge.COMES, "ASK: the shortest WORD of 1 or 2 SOUNDS that gets a VOICE YES, of several the first by rows: "
            + "how many SOUNDS; the i-th; NONE.");
        askIs("one, the first SOUND there is", asking(Check.DEEP, 0, 0, 5, 0), 0);
        askIs("one, the last SOUND there is", asking(Check.VOICE, 0, 37, 6, 5), 39);
        askIs("one, of several the first", asking(Check.VOICE, 0, 0, 5, 0), 5);
        askIs("two, as one is even", asking(Check.STUTTERER, 0, 10, 2, 1), 0, 0);
        // Nothing moves at 0; 0 is LOST: twice 0 or twice 7 is VOID, then 1.
        askIs("two, of several the first", asking(Check.STUTTERER, 0, 0, 2, 1), 0, 1);
        askIs("two, the second one the last there is", asking(Check.STUTTERER, 0, 37, 6, 5), 0, 39);
        askIs("none", hopeless());
        Edge.sentence("28", "ASK for a VOICE: how many SOUNDS (i NONE; NONE), the i-th.");
        askIs("one", asking(Check.VOICE, 0, 10, 5, 0), 12);
        askIs("two", asking(Check.STUTTERER, 0, 10, 4, 1), 0, 0);
        Edge.asked("by the last VOICE", Scene::full, 1, x -> x.ask(7, Check.NONE));
        Edge.sentence("28", "(NONE isn't refused for i NONE.)");
        Edge.asked("none", hopeless(), Check.NONE, x -> x.ask(0, Check.NONE));
    }

    private static void promise28Refuses() {
        Edge.sentence("28", "BAD (also i below NONE);");
        for (int voice : NO_VOICES) {
            Edge.refused("VOICE " + voice, Scene::laid, Check.BAD, x -> x.ask(voice, Check.NONE));
            Edge.refused("BAD ahead of STUCK, VOICE " + voice, Scene::laid, Check.BAD, x -> x.ask(voice, 9));
        }
        Edge.refused("no VOICE 8", Scene::full, Check.BAD, x -> x.ask(8, Check.NONE));
        for (int i : new int[] {-2, -3, Integer.MIN_VALUE}) {
            Edge.refused("i " + i, Scene::laid, Check.BAD, x -> x.ask(0, i));
            Edge.refused("i " + i + " of none", hopeless(), Check.BAD, x -> x.ask(0, i));
        }
        Edge.sentence("28", "STUCK: not so many.");
        for (int i : new int[] {1, 2, 3, Integer.MAX_VALUE}) {
            Edge.refused("i " + i + " of one", Scene::laid, Check.STUCK, x -> x.ask(0, i));
        }
        for (int i : new int[] {2, 3, Integer.MAX_VALUE}) {
            Edge.refused("i " + i + " of two", asking(Check.STUTTERER, 0, 0, 2, 1), Check.STUCK, x -> x.ask(0, i));
        }
        for (int i : new int[] {0, 1, Integer.MAX_VALUE}) {
            Edge.refused("i " + i + " of none", hopeless(), Check.STUCK, x -> x.ask(0, i));
        }
    }

    private static void promise45() {
        Edge.sentence("45", "How many SOUNDS (of 40) come back as they are, by a VOICE, now.");
        Edge.asked("none", Scene.thirds(Check.DEEP, 0, 10, 1), 0, x -> x.plain(0));
        Edge.asked("all", Scene.thirds(Check.DEEP, 0, 2, 1), 40, x -> x.plain(0));
        Edge.asked("all but what is LOST", Scene.thirds(Check.VOICE, 0, 2, 1), 35, x -> x.plain(0));
        Edge.asked("all but what is LOST", Scene.thirds(Check.VOICE, 0, 0, 1), 34, x -> x.plain(0));
        // Twice 20 is 40: 1, 4 .. 37.
        Edge.asked("those by twice 20", Scene.thirds(Check.DEEP, 20, 40, 1), 13, x -> x.plain(0));
        // Once 40 is 40, and so are twice and thrice as much: a third of 20 and 100.
        Supplier<WellIsAskedFirst> late = Scene.but(Scene.thirds(Check.CHILD, 0, 20, 1), x -> x.tell(2, 1000));
        Edge.asked("a CHILD's by 40", late, 34, x -> x.plain(0));
        Edge.sentence("45", "BAD.");
        for (int voice : NO_VOICES) {
            Edge.refused("VOICE " + voice, Scene::laid, Check.BAD, x -> x.plain(voice));
        }
        Edge.refused("no VOICE 8", Scene::full, Check.BAD, x -> x.plain(8));
    }

    private static Supplier<WellIsAskedFirst> voices(int depth, int... kindsAndPitches) {
        return () -> {
            WellIsAskedFirst x = new WellIsAskedFirst();
            x.tell(0, depth);
            for (int i = 0; i < kindsAndPitches.length; i += 2) {
                x.voice(kindsAndPitches[i], 0, kindsAndPitches[i + 1]);
            }
            return x;
        };
    }

    private static void promise46() {
        Edge.sentence("46", "How many twos of VOICES there are by which each SOUND comes back alike now (or is LOST for both).");
        Edge.asked("no VOICES", voices(10), 0, x -> x.twins());
        Edge.asked("one alone", voices(10, 0, 0), 0, x -> x.twins());
        Edge.asked("two", voices(10, 0, 0, 2, 1), 1, x -> x.twins());
        Edge.asked("a third more", voices(10, 0, 0, 2, 2), 0, x -> x.twins());
        Edge.asked("what is LOST is no 0", voices(0, 0, 0, 1, 0), 0, x -> x.twins());
        Edge.asked("what is LOST for one", voices(10, 0, 0, 1, 0), 0, x -> x.twins());
        Edge.asked("eight", voices(10, 0, 0, 2, 0, 4, 0, 5, 0, 0, 1, 2, 1, 4, 1, 5, 1), 28, x -> x.twins());
        Edge.asked("two and six", voices(10, 1, 0, 1, 1, 0, 1, 0, 1, 0, 0, 2, 0, 4, 0, 5, 0), 16, x -> x.twins());
        Edge.asked("the first and the last", voices(10, 0, 0, 1, 0, 0, 5, 1, 5, 0, 8, 1, 8, 0, 11, 0, 0), 1, x -> x.twins());
        Edge.asked("six KINDS", Scene::laid, 6, x -> x.twins());
    }

    private static void promise47() {
        Edge.sentence("47", "How many VOICES are of just a KIND.");
        for (int kind = 0; kind <= 5; kind++) {
            int of = kind;
            Edge.asked("none", Scene::voiceless, 0, x -> x.ofKind(of));
            Edge.asked("one of each, none by what it is under", Scene::laid, 1, x -> x.ofKind(of));
            Supplier<WellIsAskedFirst> all = voices(10, of, 0, of, 1, of, 2, of, 3, of, 4, of, 5, of, 6, of, 7);
            Edge.asked("all", all, 8, x -> x.ofKind(of));
            Edge.asked("none of all", all, 0, x -> x.ofKind((of + 1) % 6));
        }
        Edge.sentence("47", "BAD.");
        for (int kind : new int[] {Integer.MIN_VALUE, -1, 6, 7, Integer.MAX_VALUE}) {
            Edge.refused("KIND " + kind, Scene::laid, Check.BAD, x -> x.ofKind(kind));
        }
    }
}
