import java.util.ArrayList;
import java.util.List;
import java.util.function.Supplier;
import java.util.function.ToLongFunction;

/** The sentences on what is IN TRUTH, and those of promises 49 to 55; and that what only asks changes nothing. */
final class EdgeTruth {
    private EdgeTruth() {
    }

    static void run() {
        nothingIsChanged();
        shouts();
        daysByDraws();
        draws();
        promise49();
        promise50();
        promise51();
        promise51Refuses();
        promise52();
        promise53();
        promise54();
        promise54Shelves();
        promise55();
    }

    private static void nothingIsChanged() {
        Edge.sentence(Edge.COMES, "(nothing is changed)");
        List<ToLongFunction<WellIsAskedFirst>> asks = new ArrayList<>(List.of(
            x -> x.element(0, 0), x -> x.holds(0), x -> x.says(Scene.A_VOICE, 0), x -> x.voiceOf(5, 3), x -> x.back(5, 3),
            x -> x.lost(5), x -> x.echo(6, 12, 4, 12), x -> x.sum(0, 12, 4), x -> x.weighed(0, 12, 4), x -> x.heard(0, 12),
            x -> x.when(0, 12, 4), x -> x.sure(0, 12, 4), x -> x.yeses(0, 12, 4, 0), x -> x.tuned(0, 12, 4),
            x -> x.ends(0, 11, 4), x -> x.ask(4, Check.NONE), x -> x.depths(0, 12, 6, 13, 4, 0),
            x -> x.fits(0, 12, 6, 13, 4, 0), x -> x.fits(0, 12, 6, 13, 4, 1), x -> x.below(0, 12, 6, 13, 4)));
        asks.addAll(List.of(
            x -> x.next(0, 0, 6, 0, 4), x -> x.suits(0, 12, 7), x -> x.buckets(0, 12, 4, 8, 0), x -> x.odds(0, 12, 4, 3, 1),
            x -> x.ahead(200), x -> x.rains(0, 12, 4, 60), x -> x.fairest(0, 12), x -> x.alike(0, 12, 4, 2),
            x -> x.less(0, 12, 4), x -> x.best(0, 12, 0), x -> x.mute(0, 12), x -> x.like(0, 12, 4), x -> x.sinks(40),
            x -> x.plain(4), x -> x.twins(), x -> x.ofKind(4), x -> x.judge(0, 12, 6, 20), x -> x.status(0)));
        Supplier<WellIsAskedFirst> scene = Scene.but(Scene::full, x -> x.tell(1, 3));
        int number = 0;
        for (ToLongFunction<WellIsAskedFirst> ask : asks) {
            number++;
            Edge.answers("what asks, number " + number, scene, ask);
        }
        // Nor does what one call works with come into another one's answer.
        WellIsAskedFirst x = scene.get();
        for (int round = 0; round < 3; round++) {
            for (int i = 0; i < asks.size(); i++) {
                int at = round == 1 ? asks.size() - 1 - i : i;
                ToLongFunction<WellIsAskedFirst> ask = asks.get(at);
                Edge.due("asked once more, number " + (at + 1), ask.applyAsLong(x), ask.applyAsLong(scene.get()));
            }
        }
    }

    /** One DEEP VOICE; SHELF 0 holds twelve SOUNDS 0: each comes back as a third of DEPTH. */
    private static WellIsAskedFirst deep(int depth, int w, int r) {
        WellIsAskedFirst x = Scene.thirds(Check.DEEP, 0, depth, 1).get();
        x.weigh(w, r);
        return x;
    }

    private static void countsAre(WellIsAskedFirst x, int done, int refused) {
        Edge.due("DONE", x.status(6), done);
        Edge.due("REFUSED", x.status(7), refused);
    }

    private static void shouts() {
        Edge.sentence(Edge.COMES, "IN TRUTH: a SHOUT (YES: DONE is 1 more; else REFUSED);");
        WellIsAskedFirst x = deep(15, 5, 0);
        Edge.granted("YES", x, 1, y -> y.shout(0, 1, 0));
        countsAre(x, 1, 0);
        x.tell(0, 14);
        Edge.granted("no", x, 0, y -> y.shout(0, 1, 0));
        countsAre(x, 1, 1);
        Edge.granted("VOID", x, Check.NONE, y -> y.shout(0, 0, 0));
        countsAre(x, 1, 2);
        Edge.due("no DAY passes", x.status(3), 0);
        Edge.due("no bucket is drawn", x.status(1), 14);
        x.shout(0, 13, 0);
        x.shout(0, 1, 1);
        x.shout(1, 1, 0);
        countsAre(x, 1, 2);
        for (int i = 0; i < 300; i++) {
            x.shout(0, 0, 0);
        }
        countsAre(x, 1, 302);
        Edge.sentence(Edge.COMES, "DAYS;");
        WellIsAskedFirst z = deep(15, 5, 0);
        z.tell(1, 0);
        Edge.granted("two", z, 17, y -> y.days(2));
        Edge.due("DAY", z.status(3), 2);
        countsAre(z, 0, 0);
    }

    private static int nextSeed(int seed) {
        return (int) ((seed * 1103515245L + 12345L) & 0xFFFFFFFFL);
    }

    private static int drawOf(int seed, int n) {
        return (int) (((seed & 0xFFFFFFFFL) >> 16) % n);
    }

    private static void daysByDraws() {
        Edge.sentence(Edge.COMES, "DAYS by draws, n, with a WORD: each: RAIN becomes a DRAW below 10; a VOICE (a DRAW below how many) "
            + "shouts; a DAY; how many got YES.");
        // SEED 1: the first DRAW is 16838, 8 below 10. The SHOUT is ahead of the DAY.
        WellIsAskedFirst x = deep(15, 5, 0);
        Edge.granted("one, with YES", x, 1, y -> y.drawn(0, 1, 1));
        countsAre(x, 1, 0);
        Edge.due("RAIN", x.status(2), 8);
        Edge.due("DEPTH", x.status(1), 8);
        Edge.due("DAY", x.status(3), 1);
        WellIsAskedFirst z = deep(22, 5, 0);
        Edge.granted("one, whose YES would be a DAY later", z, 0, y -> y.drawn(0, 1, 1));
        countsAre(z, 0, 1);
        Edge.due("DEPTH", z.status(1), 15);
        WellIsAskedFirst v = deep(15, 5, 0);
        Edge.granted("VOID is no YES", v, 0, y -> y.drawn(0, 0, 1));
        countsAre(v, 0, 1);
        for (int voices = 1; voices <= 8; voices++) {
            int drawn = drawOf(nextSeed(nextSeed(1)), voices);
            for (int voice = 0; voice < voices; voice++) {
                WellIsAskedFirst one = deep(40, 9, 5);
                for (int i = 1; i < voices; i++) {
                    one.voice(Check.DEEP, 0, 0);
                }
                // A third of 42 is 14, which is 5 by 9; 13 is not.
                one.pitch(voice, 2);
                Edge.granted("VOICE " + voice + " of " + voices, one, voice == drawn ? 1 : 0, y -> y.drawn(0, 1, 1));
            }
        }
    }

    private static void firstDrawIs(int seed, int seedThen, int rain) {
        WellIsAskedFirst x = deep(15, 5, 0);
        x.seed(seed);
        x.drawn(0, 1, 1);
        Edge.due("RAIN by SEED " + seed, x.status(2), rain);
        Edge.due("two DRAWS later, from SEED " + seed, x.status(9), nextSeed(seedThen));
    }

    private static void draws() {
        Edge.sentence(Edge.COMES, "A DRAW below n: SEED (1 at first) becomes SEED times 1103515245, and 12345 (an int, wrapping); "
            + "its upper 16 bits, no sign, modulo n.");
        Edge.due("at first", new WellIsAskedFirst().status(9), 1);
        firstDrawIs(1, 1103527590, 16838 % 10);
        firstDrawIs(0, 12345, 0);
        firstDrawIs(-1, -1103502900, 48697 % 10);
        firstDrawIs(2, -2087924461, 33676 % 10);
        firstDrawIs(Integer.MIN_VALUE, Integer.MIN_VALUE + 12345, 32768 % 10);
        firstDrawIs(Integer.MAX_VALUE, 1043980748, 15929 % 10);
        for (int seed : new int[] {3, 17, 65535, 65536, -65536, 123456789, -987654321}) {
            firstDrawIs(seed, nextSeed(seed), drawOf(nextSeed(seed), 10));
        }
    }

    private static void promise49() {
        Edge.sentence("49", "A SHOUT in truth: how it is WEIGHED; NONE.");
        Edge.granted("YES", deep(15, 5, 0), 1, x -> x.shout(0, 1, 0));
        Edge.granted("no", deep(15, 5, 1), 0, x -> x.shout(0, 1, 0));
        Edge.granted("of twelve", deep(15, 5, 0), 1, x -> x.shout(0, 12, 0));
        // By a third of 29 come back 19, 29 and 12.
        Edge.granted("the last VOICE", Scene.full(), 1, x -> x.shout(Scene.THREE, 3, 7));
        Edge.granted("what stands behind the WORD is no matter", Scene.laid(), 0, x -> x.shout(Scene.TOO_HIGH, 1, 0));
        Edge.sentence("49", "BY A WORD (voice).");
        ByAWord.refuses(12, (x, s, n) -> x.shout(s, n, 0));
        for (int voice : new int[] {Integer.MIN_VALUE, -2, -1, 6, 7, 8, Integer.MAX_VALUE}) {
            for (int s : new int[] {Scene.WORD, Scene.A_VOICE, Scene.BARE, Scene.TOO_HIGH}) {
                Edge.refused("VOICE " + voice + ", SHELF " + s, Scene::laid, Check.BAD, x -> x.shout(s, 2, voice));
            }
        }
        Edge.refused("no VOICES", Scene::voiceless, Check.BAD, x -> x.shout(0, 1, 0));
        Edge.refused("no VOICE 8", Scene::full, Check.BAD, x -> x.shout(0, 1, 8));
        Edge.sentence("49", "(NONE isn't refused.)");
        Edge.granted("no SOUND", Scene.laid(), Check.NONE, x -> x.shout(Scene.EMPTY, 0, 1));
        Edge.granted("LOST", Scene.thirds(Check.VOICE, 0, 0, 1).get(), Check.NONE, x -> x.shout(0, 12, 0));
    }

    private static void promise50() {
        Edge.sentence("50", "DAYS pass in truth (n 1 to 60): DEPTH then.");
        for (int n : new int[] {1, 2, 59, 60}) {
            WellIsAskedFirst x = deep(0, 5, 0);
            x.tell(1, 0);
            Edge.granted(n + " DAYS", x, Math.min(40, n), y -> y.days(n));
            Edge.due("DAY", x.status(3), n);
            Edge.due("DEPTH", x.status(1), Math.min(40, n));
            WellIsAskedFirst z = deep(40, 5, 0);
            z.tell(1, 9);
            z.tell(2, 9940);
            Edge.granted(n + " DAYS", z, Math.max(0, 40 - 8 * n), y -> y.days(n));
            Edge.due("DAY", z.status(3), Math.min(9999, 9940 + n));
        }
        Edge.sentence("50", "BAD.");
        for (int n : new int[] {Integer.MIN_VALUE, -2, -1, 0, 61, 62, Integer.MAX_VALUE}) {
            Edge.refused("n " + n, Scene::laid, Check.BAD, x -> x.days(n));
        }
    }

    private static void promise51() {
        Edge.sentence("51", "DAYS by draws (k 1 to 40): how many got YES.");
        for (int k : new int[] {1, 2, 39, 40}) {
            WellIsAskedFirst x = Scene.but(Scene::full, y -> y.weigh(2, 0)).get();
            WellIsAskedFirst other = Scene.but(Scene::full, y -> y.weigh(2, 0)).get();
            int seed = -7;
            int count = 0;
            for (int day = 0; day < k; day++) {
                seed = nextSeed(seed);
                other.tell(1, drawOf(seed, 10));
                seed = nextSeed(seed);
                count += other.shout(Scene.WORD, 12, drawOf(seed, 8)) == 1 ? 1 : 0;
                other.days(1);
            }
            Edge.granted(k + " of them", x, count, y -> y.drawn(Scene.WORD, 12, k));
            Edge.due("SEED", x.status(9), seed);
            for (int what = 0; what <= 7; what++) {
                Edge.due("status " + what, x.status(what), other.status(what));
            }
            Edge.due("all are counted", x.status(6) + x.status(7), k);
        }
        WellIsAskedFirst all = deep(0, 3, 0);
        Edge.granted("all of 40", all, 40, x -> x.drawn(0, 12, 40));
        WellIsAskedFirst none = deep(0, 3, 1);
        Edge.granted("none of 40", none, 0, x -> x.drawn(0, 12, 40));
        Edge.granted("no WORD", Scene.laid(), 0, x -> x.drawn(Scene.EMPTY, 0, 40));
        Edge.granted("what stands behind the WORD is no matter", Scene.laid(), 0, x -> Math.min(0, x.drawn(Scene.TOO_LOW, 1, 1)));
    }

    private static void promise51Refuses() {
        Edge.sentence("51", "BY A WORD (k); STUCK: no VOICES.");
        ByAWord.refuses(12, (x, s, n) -> x.drawn(s, n, 1));
        int[] bad = {Integer.MIN_VALUE, -2, -1, 0, 41, 42, Integer.MAX_VALUE};
        ByAWord.refusesNumbers("k", bad, (x, s, k) -> x.drawn(s, 2, k));
        Supplier<WellIsAskedFirst> none = Scene.but(Scene::voiceless, x -> x.row(2, Check.BYTES, 1));
        for (int k : bad) {
            Edge.refused("BAD k ahead of no VOICES, " + k, none, Check.BAD, x -> x.drawn(0, 2, k));
        }
        Edge.refused("no VOICES", none, Check.STUCK, x -> x.drawn(0, 12, 1));
        Edge.refused("no VOICES, no WORD", none, Check.STUCK, x -> x.drawn(2, 0, 40));
        Edge.refused("NOTHING ahead of no VOICES", none, Check.NOTHING, x -> x.drawn(7, 1, 1));
        Edge.refused("fewer elements ahead of no VOICES", none, Check.BAD, x -> x.drawn(2, 2, 1));
        Edge.refused("no SOUND, no VOICES", none, Check.STUCK, x -> x.drawn(Scene.TOO_HIGH, 2, 1));
    }

    private static void promise52() {
        Edge.sentence("52", "SEED becomes v: the one ahead.");
        WellIsAskedFirst x = new WellIsAskedFirst();
        int ahead = 1;
        for (int v : new int[] {Integer.MIN_VALUE, Integer.MAX_VALUE, -1, 0, 1}) {
            int was = ahead;
            Edge.granted("SEED " + v, x, was, y -> y.seed(v));
            Edge.due("it is so", x.status(9), v);
            ahead = v;
        }
    }

    private static void wellIs(WellIsAskedFirst x, int... want) {
        for (int what = 0; what < want.length; what++) {
            Edge.due("status " + what, x.status(what), want[what]);
        }
    }

    /** Another number for all there is: each VOICE, all numbers, SHELVES, THE TAPE and some refusals. */
    private static void changeAll(WellIsAskedFirst x) {
        x.tell(0, 40);
        x.tell(1, 9);
        x.tell(2, 9999);
        x.weigh(9, 4);
        x.pitch(0, 0);
        Scene.row(x, 0, Check.BYTES, 0);
        x.shout(0, 1, 0);
        x.shout(0, 0, 0);
        x.weigh(9, 8);
        for (int voice = 0; voice < 2; voice++) {
            x.pitch(voice, 20);
        }
        for (int voice = 2; voice < 8; voice++) {
            x.voice(Check.CHILD, 9, 20);
        }
        x.seed(Integer.MIN_VALUE);
        x.set(0, 0, 39);
        x.row(7, Check.LONGS, 40);
        x.feed(7);
        x.feed(256);
    }

    private static void promise53() {
        Edge.sentence("53", "All is kept, but THE TAPE, SHELVES and REFUSALS: 1.");
        Edge.granted("of a new one", new WellIsAskedFirst(), 1, x -> x.image());
        WellIsAskedFirst x = deep(15, 5, 0);
        x.voice(Check.PRIEST, 3, 4);
        x.shout(0, 1, 0);
        x.feed(65);
        Edge.granted("image", x, 1, y -> y.image());
        wellIs(x, 2, 15, 1, 0, 5, 0, 1, 0, 1, 1, 1);
        changeAll(x);
        wellIs(x, 8, 40, 9, 9999, 9, 8, 2, 1, 2, Integer.MIN_VALUE, 2, -1, 1);
        x.again();
        wellIs(x, 2, 15, 1, 0, 5, 0, 1, 0, 2, 1, 2, -1, 1);
        Edge.due("the first one's PITCH", x.voiceOf(0, 2), 0);
        Edge.due("the second one's KIND", x.voiceOf(1, 0), Check.PRIEST);
        Edge.due("the second one's a", x.voiceOf(1, 1), 3);
        Edge.due("the second one's PITCH", x.voiceOf(1, 2), 4);
        Edge.due("SHELVES are as they are", x.element(0, 0), 39);
        Edge.due("SHELVES are as they are", x.holds(7), 3);
        changeAll(x);
        Edge.granted("a later image", x, 1, y -> y.image());
        x.tell(0, 0);
        x.again();
        wellIs(x, 8, 40, 9, 9999, 9, 8, 2, 1, 3, Integer.MIN_VALUE, 2, -1, 2);
    }

    private static void promise54() {
        Edge.sentence("54", "All is again as it was kept");
        WellIsAskedFirst x = deep(15, 5, 0);
        x.image();
        for (int round = 0; round < 3; round++) {
            changeAll(x);
            Edge.granted("again and again", x, 1, y -> y.again());
            wellIs(x, 1, 15, 1, 0, 5, 0, 0, 0, round + 1, 1, 2);
            Edge.due("PITCH", x.voiceOf(0, 2), 0);
            Edge.due("none of number 1", x.voiceOf(1, 0), Check.BAD);
        }
        Edge.due("the next one", x.voice(Check.CHILD, 1, 1), 1);
        WellIsAskedFirst z = new WellIsAskedFirst();
        z.image();
        for (int voice = 0; voice < 8; voice++) {
            z.voice(0, 0, 0);
        }
        Edge.granted("none, where there were eight", z, 1, y -> y.again());
        Edge.due("none", z.status(0), 0);
        Edge.due("there is room for the first", z.voice(0, 0, 0), 0);
        Edge.sentence("54", "STUCK: nothing was.");
        Edge.refused("of a new one", Scene::fresh, Check.STUCK, y -> y.again());
        Edge.refused("of a used one", Scene.thirds(0, 0, 3, 3), Check.STUCK, y -> y.again());
    }

    private static void promise54Shelves() {
        Edge.sentence("54", "(SHELVES with VOICES hold those of the same numbers, or NOTHING): 1.");
        for (int kept = 0; kept <= 8; kept++) {
            WellIsAskedFirst x = new WellIsAskedFirst();
            for (int voice = 0; voice < kept; voice++) {
                x.voice(Check.DEEP, 0, voice);
            }
            x.image();
            for (int voice = kept; voice < 8; voice++) {
                x.voice(Check.DEEP, 0, voice);
            }
            for (int s = 0; s < 8; s++) {
                x.show(s, s);
                x.pitch(s, 20);
            }
            Edge.granted(kept + " kept", x, 1, y -> y.again());
            for (int s = 0; s < 8; s++) {
                Edge.due(kept + " kept, SHELF " + s, x.holds(s), s < kept ? 10 + s : Check.NONE);
                Edge.due(kept + " kept, what it says", x.says(s, 0), s < kept ? s : Check.NOTHING);
            }
            Edge.due("SHELVES that hold something", x.status(10), kept);
            x.voice(0, 0, 0);
            Edge.due("a new VOICE is on no SHELF", x.status(10), kept);
        }
        WellIsAskedFirst z = new WellIsAskedFirst();
        z.image();
        Scene.row(z, 0, Check.LONGS, 17);
        z.voice(0, 0, 0);
        z.show(1, 0);
        z.again();
        Edge.due("a ROW stays", z.element(0, 0), 17);
        Edge.due("a VOICE goes", z.holds(1), Check.NONE);
    }

    private static void promise55() {
        Edge.sentence("55", "VOICES (0), DEPTH (1), RAIN (2), DAY (3), WEIGHT (4), REST (5), DONE (6), REFUSED (7), THE TAPE's size "
            + "(8), SEED (9), SHELVES that hold something (10); 12 to 16: REFUSALS -2 to -6.");
        WellIsAskedFirst x = new WellIsAskedFirst();
        wellIs(x, 0, 10, 1, 0, 5, 0, 0, 0, 0, 1, 0, -1, 0, 0, 0, 0, 0, -1);
        for (int voice = 0; voice < 9; voice++) {
            x.voice(0, 0, 0);
        }
        x.tell(0, 40);
        x.tell(1, 9);
        x.tell(2, 9999);
        x.weigh(9, 8);
        for (int s = 0; s < 8; s++) {
            x.row(s, 0, 0);
        }
        x.show(7, 7);
        x.seed(Integer.MIN_VALUE);
        for (int i = 0; i < 252; i++) {
            x.feed(0);
        }
        x.feed(256);
        for (int i = 0; i < 5; i++) {
            x.shout(0, 0, 0);
            x.again();
            x.says(0, 0);
        }
        x.shout(7, 0, 0);
        wellIs(x, 8, 40, 9, 9999, 9, 8, 0, 5, 250, Integer.MIN_VALUE, 8, -1, 1, 6, 0, 5, 3, -1);
        x.show(6, Check.NONE);
        Edge.due("seven SHELVES", x.status(10), 7);
        x.set(6, 0, 0);
        Edge.due("one NOTHING", x.status(14), 1);
        Edge.sentence("55", "NONE another what.");
        for (int what : new int[] {Integer.MIN_VALUE, -2, -1, 11, 17, 18, Integer.MAX_VALUE}) {
            Edge.asked("what " + what, Scene::laid, Check.NONE, y -> y.status(what));
        }
    }
}
