import java.util.function.Supplier;

/** The sentences on a told ECHO and a told LOG, and those of promises 29 to 32 and 48. */
final class EdgeTold {
    private EdgeTold() {
    }

    static void run() {
        depthsKindsPitches();
        below();
        next();
        log();
        promise29();
        promise30();
        promise31();
        promise32();
        promise48();
        promise48Refuses();
    }

    /** One VOICE that shouts 0; SHELF 1 holds what is told. */
    private static Supplier<WellIsAskedFirst> told(int kind, int pitch, int depth, long... echo) {
        return Scene.but(Scene.thirds(kind, pitch, depth, 1), x -> Scene.row(x, 1, Check.LONGS, echo));
    }

    private static void depthsAre(String what, Supplier<WellIsAskedFirst> scene, int n, int m, int count, int least, int most) {
        Edge.asked(what + ": how many", scene, count, x -> x.depths(0, n, 1, m, 0, 0));
        Edge.asked(what + ": the least", scene, least, x -> x.depths(0, n, 1, m, 0, 1));
        Edge.asked(what + ": the greatest", scene, most, x -> x.depths(0, n, 1, m, 0, 2));
    }

    private static void depthsKindsPitches() {
        Edge.sentence(Edge.COMES, "By a told ECHO of a WORD (two ROWS): DEPTHS (0 to 40) by which a VOICE has just that, "
            + "all else as it is: how many; the least; the greatest.");
        depthsAre("all", told(Check.DEEP, 0, 10), 0, 0, 41, 0, 40);
        depthsAre("0 alone", told(Check.DEEP, 2, 10, 0), 1, 1, 1, 0, 0);
        depthsAre("0 and up", told(Check.DEEP, 0, 10, 0), 1, 1, 3, 0, 2);
        depthsAre("40 alone", told(Check.PRIEST, 13, 10, 11), 1, 1, 1, 40, 40);
        depthsAre("39 and 40", told(Check.DEEP, 0, 10, 13), 1, 1, 2, 39, 40);
        depthsAre("none", told(Check.DEEP, 0, 10, 14), 1, 1, 0, Check.NONE, Check.NONE);
        depthsAre("LOST at the least", told(Check.VOICE, 0, 10, 0), 1, 1, 2, 1, 2);
        depthsAre("nothing comes back", told(Check.VOICE, 0, 10), 12, 0, 6, 0, 35);
        depthsAre("just that: too short", told(Check.DEEP, 0, 10, 3), 2, 1, 0, Check.NONE, Check.NONE);
        depthsAre("just that: too long", told(Check.DEEP, 0, 10, 3, 3), 1, 2, 0, Check.NONE, Check.NONE);
        depthsAre("just that: the last is another", told(Check.DEEP, 0, 10, 3, 3, 4), 3, 3, 0, Check.NONE, Check.NONE);
        Edge.sentence(Edge.COMES, "KINDS (bits) of it, PITCHES (bits 0 to 20) likewise.");
        Edge.asked("all KINDS", told(Check.DEEP, 0, 10), 63, x -> x.fits(0, 0, 1, 0, 0, 0));
        Edge.asked("no KIND", told(Check.DEEP, 0, 10, 40), 0, x -> x.fits(0, 1, 1, 1, 0, 0));
        // 0 comes back as 3 for VOICE, DEEP and CHILD, twice for STUTTERER and PROPHET, as 1 for PRIEST.
        Edge.asked("KINDS 0, 1, 5", told(Check.PRIEST, 0, 10, 3), 35, x -> x.fits(0, 1, 1, 1, 0, 0));
        Edge.asked("KINDS 2, 4", told(Check.PRIEST, 0, 10, 3, 3), 20, x -> x.fits(0, 1, 1, 2, 0, 0));
        Edge.asked("KIND 3", told(Check.VOICE, 0, 10, 1), 8, x -> x.fits(0, 1, 1, 1, 0, 0));
        Edge.asked("all PITCHES", told(Check.VOICE, 0, 10), (1 << 21) - 1, x -> x.fits(0, 0, 1, 0, 0, 1));
        Edge.asked("no PITCH", told(Check.VOICE, 0, 10, 11), 0, x -> x.fits(0, 1, 1, 1, 0, 1));
        Edge.asked("PITCH 0 alone", told(Check.VOICE, 9, 2, 0), 1, x -> x.fits(0, 1, 1, 1, 0, 1));
        Edge.asked("PITCH 20 alone", told(Check.VOICE, 9, 1, 7), 1 << 20, x -> x.fits(0, 1, 1, 1, 0, 1));
        Edge.asked("PITCHES 0 and 1", told(Check.VOICE, 9, 10, 3), 3, x -> x.fits(0, 1, 1, 1, 0, 1));
        Edge.asked("PITCHES 20 and 19", told(Check.VOICE, 9, 11, 10), 3 << 19, x -> x.fits(0, 1, 1, 1, 0, 1));
        Edge.asked("LOST by all PITCHES", told(Check.VOICE, 9, 7), (1 << 21) - 1, x -> x.fits(0, 1, 1, 0, 0, 1));
        Supplier<WellIsAskedFirst> child = Scene.but(told(Check.CHILD, 9, 10, 4), x -> x.tell(2, 19));
        Edge.asked("a CHILD's PITCHES by the day as it is", child, 14, x -> x.fits(0, 1, 1, 1, 0, 1));
    }

    private static void below() {
        Edge.sentence(Edge.COMES, "BELOW: whether no DEPTH gives it: 1, 0.");
        Edge.asked("all DEPTHS do", told(Check.DEEP, 0, 10), 0, x -> x.below(0, 0, 1, 0, 0));
        Edge.asked("0 alone does", told(Check.DEEP, 2, 10, 0), 0, x -> x.below(0, 1, 1, 1, 0));
        Edge.asked("40 alone does", told(Check.PRIEST, 13, 10, 11), 0, x -> x.below(0, 1, 1, 1, 0));
        Edge.asked("none does", told(Check.DEEP, 0, 10, 14), 1, x -> x.below(0, 1, 1, 1, 0));
        Edge.asked("41 would", told(Check.PRIEST, 13, 10, 12), 1, x -> x.below(0, 1, 1, 1, 0));
    }

    private static void next() {
        Edge.sentence(Edge.COMES, "NEXT: the SOUND which, as a WORD of its own, parts those DEPTHS best by its ECHO: "
            + "in the worst case fewest are left, of several the first; NONE: fewer than two.");
        Edge.asked("none fits", told(Check.DEEP, 0, 10, 14), Check.NONE, x -> x.next(0, 1, 1, 1, 0));
        Edge.asked("one fits", told(Check.DEEP, 2, 10, 0), Check.NONE, x -> x.next(0, 1, 1, 1, 0));
        Edge.asked("one fits, 40", told(Check.PRIEST, 13, 10, 11), Check.NONE, x -> x.next(0, 1, 1, 1, 0));
        // 39 and 40 have one third: 2 is LOST at 40, and none before it at either.
        Edge.asked("two fit", told(Check.VOICE, 0, 10, 13), 2, x -> x.next(0, 1, 1, 1, 0));
        Edge.asked("two fit, and none parts them", told(Check.DEEP, 0, 10, 13), 0, x -> x.next(0, 1, 1, 1, 0));
        Edge.asked("three fit, and none parts them", told(Check.DEEP, 0, 10, 0), 0, x -> x.next(0, 1, 1, 1, 0));
        // At 0 it is LOST; of 1 and 2 the SOUND 5 is LOST at 2, and none before it at either.
        Edge.asked("1 and 2 fit", told(Check.VOICE, 0, 10, 0), 5, x -> x.next(0, 1, 1, 1, 0));
        // 0, 1, 2: 0 is LOST at 0, 5 at 2, 6 at 1.
        Supplier<WellIsAskedFirst> one = Scene.but(told(Check.VOICE, 0, 10, 1), x -> Scene.row(x, 0, Check.BYTES, 1));
        Edge.asked("0, 1 and 2 fit", one, 0, x -> x.next(0, 1, 1, 1, 0));
        // 6 and 8: 1 is LOST at 6, 0 at neither.
        Edge.asked("6 and 8 fit", told(Check.VOICE, 0, 10, 2), 1, x -> x.next(0, 1, 1, 1, 0));
        // 9, 10, 11: 3 is LOST at 11, 4 at 10, 5 at 9: of two left each the first.
        Edge.asked("of several the first", told(Check.VOICE, 0, 10, 3), 3, x -> x.next(0, 1, 1, 1, 0));
        // All DEPTHS: 0 has 13 thirds of three DEPTHS and one of two; no SOUND has more.
        Edge.asked("all fit, none is LOST", told(Check.DEEP, 0, 10), 0, x -> x.next(0, 0, 1, 0, 0));
        Edge.asked("a STUTTERER's ECHO is none other", told(Check.STUTTERER, 0, 10, 13, 13), 2, x -> x.next(0, 1, 1, 2, 0));
    }

    private static void log() {
        Edge.sentence(Edge.COMES, "A told LOG: a ROW of twos (a VOICE, how its WORD was WEIGHED: 1, 0, NONE), one DAY behind the "
            + "other: WRONG: the first two that isn't so; NONE.");
        // 13, 14 (LOST), 15, 16, 17, 18: 4, nothing, 5, 5, 5, 6.
        long[] so = {0, 0, 0, -1, 0, 1, 0, 1, 0, 1, 0, 0};
        Supplier<WellIsAskedFirst> scene = Scene.but(told(Check.VOICE, 0, 13, so), x -> x.tell(1, 0));
        for (int m = 0; m <= 6; m++) {
            int twos = m;
            Edge.asked("all is so, " + m, scene, Check.NONE, x -> x.judge(0, 1, 1, twos));
        }
        for (int two = 0; two < 6; two++) {
            int wrong = two;
            for (long answer : new long[] {-1, 0, 1, 2, -2, 1L << 32, -1L << 32, (1L << 32) + 1}) {
                if (answer != so[2 * two + 1]) {
                    Supplier<WellIsAskedFirst> no = Scene.but(scene, x -> x.set(1, 2 * wrong + 1, answer));
                    Edge.asked("not " + answer + " on day " + two, no, two, x -> x.judge(0, 1, 1, 6));
                    Edge.asked("ahead of it all is so", no, Check.NONE, x -> x.judge(0, 1, 1, wrong));
                }
            }
            for (long voice : new long[] {-1, 1, 8, 1L << 32, Long.MIN_VALUE, Long.MAX_VALUE}) {
                Supplier<WellIsAskedFirst> no = Scene.but(scene, x -> x.set(1, 2 * wrong, voice));
                Edge.asked("no VOICE " + voice + " on day " + two, no, two, x -> x.judge(0, 1, 1, 6));
            }
        }
        Supplier<WellIsAskedFirst> both = Scene.but(scene, x -> {
            x.set(1, 5, 0);
            x.set(1, 9, 0);
        });
        Edge.asked("of two the first", both, 2, x -> x.judge(0, 1, 1, 6));
        Supplier<WellIsAskedFirst> late = Scene.but(told(Check.CHILD, 0, 14, 0, 0, 0, 0), x -> x.tell(2, 9999));
        Edge.asked("DAY 9999 stays", Scene.but(late, x -> x.row(0, Check.BYTES, 0)), 0, x -> x.judge(0, 0, 1, 2));
        // A third of 10 and 999 is 336, which is 16 by 40: a no by 5, today and on all days.
        Edge.asked("DAY 9999 stays", Scene.but(late, x -> x.tell(0, 10)), Check.NONE, x -> x.judge(0, 1, 1, 2));
    }

    private static void promise29() {
        Edge.sentence("29", "DEPTHS by the ECHO in SHELF p, its first m elements (0 to 13; whatever they are):");
        long[] threes = {3, 3, 3, 3, 3, 3, 3, 3, 3, 3, 3, 3, 3, 3};
        depthsAre("thirteen", told(Check.STUTTERER, 0, 10, threes), 12, 13, 3, 9, 11);
        depthsAre("twelve", told(Check.DEEP, 0, 10, threes), 12, 12, 3, 9, 11);
        depthsAre("none", told(Check.VOICE, 0, 10, threes), 12, 0, 6, 0, 35);
        for (long v : new long[] {40, -1, 43, 1L << 32, (1L << 32) + 3, Long.MAX_VALUE, Long.MIN_VALUE}) {
            depthsAre("no SOUND " + v, told(Check.DEEP, 0, 10, v), 1, 1, 0, Check.NONE, Check.NONE);
            depthsAre("behind it all is well", told(Check.DEEP, 0, 10, 3, v), 1, 1, 3, 9, 11);
        }
        Supplier<WellIsAskedFirst> booleans = Scene.but(told(Check.DEEP, 0, 10), x -> Scene.row(x, 1, Check.BOOLEANS, 5));
        depthsAre("booleans are 1 and 0", booleans, 1, 1, 3, 3, 5);
        Edge.sentence("29", "how many (what 0), the least (1; NONE), the greatest (2; NONE).");
        depthsAre("none", told(Check.DEEP, 0, 10, 14), 1, 1, 0, Check.NONE, Check.NONE);
        depthsAre("several", told(Check.DEEP, 0, 10, 7), 1, 1, 3, 21, 23);
        Edge.sentence("29", "BY A WORD (voice, what, SHELF p, m; both SHELVES).");
        ByAWord.refusesTwo(13, 1, (x, s, n, p, m) -> x.depths(s, n, p, m, 0, 0));
        ByAWord.refusesVoices((x, s, voice) -> x.depths(s, 2, Scene.THREE, 1, voice, 0));
        int[] bad = {Integer.MIN_VALUE, -1, 3, 4, Integer.MAX_VALUE};
        ByAWord.refusesNumbers("what", bad, (x, s, what) -> x.depths(s, 2, Scene.THREE, 1, 0, what));
        ByAWord.refusesNumbers("what, p a VOICE", bad, (x, s, what) -> x.depths(s, 2, Scene.A_VOICE, 1, 0, what));
        Edge.sentence("29", "(NONE isn't refused.)");
        Edge.asked("the least of none", told(Check.DEEP, 0, 10, 14), Check.NONE, x -> x.depths(0, 1, 1, 1, 0, 1));
        Edge.asked("the greatest of none", told(Check.DEEP, 0, 10, 14), Check.NONE, x -> x.depths(0, 1, 1, 1, 0, 2));
    }

    private static void promise30() {
        Edge.sentence("30", "KINDS (what 0), PITCHES (1) likewise.");
        long[] threes = {3, 3, 3, 3, 3, 3, 3, 3, 3, 3, 3, 3, 3};
        Edge.asked("KINDS of thirteen", told(Check.VOICE, 0, 10, threes), 20, x -> x.fits(0, 12, 1, 13, 0, 0));
        Edge.asked("KINDS of twelve", told(Check.VOICE, 0, 10, threes), 35, x -> x.fits(0, 12, 1, 12, 0, 0));
        Edge.asked("PITCHES of thirteen", told(Check.PROPHET, 7, 10, threes), 3, x -> x.fits(0, 12, 1, 13, 0, 1));
        Edge.asked("no SOUND: no KIND", told(Check.VOICE, 0, 10, -1), 0, x -> x.fits(0, 1, 1, 1, 0, 0));
        Edge.asked("no SOUND: no PITCH", told(Check.VOICE, 0, 10, 1L << 32), 0, x -> x.fits(0, 1, 1, 1, 0, 1));
        Edge.sentence("30", "BY A WORD (likewise).");
        ByAWord.refusesTwo(13, 1, (x, s, n, p, m) -> x.fits(s, n, p, m, 0, 0));
        ByAWord.refusesTwo(13, 1, (x, s, n, p, m) -> x.fits(s, n, p, m, 0, 1));
        ByAWord.refusesVoices((x, s, voice) -> x.fits(s, 2, Scene.THREE, 1, voice, 0));
        int[] bad = {Integer.MIN_VALUE, -1, 2, 3, Integer.MAX_VALUE};
        ByAWord.refusesNumbers("what", bad, (x, s, what) -> x.fits(s, 2, Scene.THREE, 1, 0, what));
        ByAWord.refusesNumbers("what, p NOTHING", bad, (x, s, what) -> x.fits(s, 2, Scene.BARE, 1, 0, what));
    }

    private static void promise31() {
        Edge.sentence("31", "BELOW likewise: 1, 0.");
        long[] threes = {3, 3, 3, 3, 3, 3, 3, 3, 3, 3, 3, 3, 3};
        Edge.asked("thirteen", told(Check.STUTTERER, 0, 10, threes), 0, x -> x.below(0, 12, 1, 13, 0));
        Edge.asked("one too many", told(Check.DEEP, 0, 10, threes), 1, x -> x.below(0, 12, 1, 13, 0));
        Edge.asked("no SOUND", told(Check.DEEP, 0, 10, Long.MIN_VALUE), 1, x -> x.below(0, 1, 1, 1, 0));
        Edge.sentence("31", "BY A WORD (likewise).");
        ByAWord.refusesTwo(13, 1, (x, s, n, p, m) -> x.below(s, n, p, m, 0));
        ByAWord.refusesVoices((x, s, voice) -> x.below(s, 2, Scene.THREE, 1, voice));
    }

    private static void promise32() {
        Edge.sentence("32", "NEXT likewise; NONE.");
        long[] threes = {3, 3, 3, 3, 3, 3, 3, 3, 3, 3, 3, 3, 3};
        Edge.asked("thirteen", told(Check.STUTTERER, 0, 10, threes), 3, x -> x.next(0, 12, 1, 13, 0));
        Edge.asked("nothing comes back", told(Check.VOICE, 0, 10, threes), 1, x -> x.next(0, 12, 1, 0, 0));
        Edge.sentence("32", "BY A WORD (likewise).");
        ByAWord.refusesTwo(13, 1, (x, s, n, p, m) -> x.next(s, n, p, m, 0));
        ByAWord.refusesVoices((x, s, voice) -> x.next(s, 2, Scene.THREE, 1, voice));
        Edge.sentence("32", "(NONE isn't refused.)");
        Edge.asked("none fits", told(Check.DEEP, 0, 10, 40), Check.NONE, x -> x.next(0, 1, 1, 1, 0));
        Edge.asked("one fits", told(Check.DEEP, 2, 10, 0), Check.NONE, x -> x.next(0, 1, 1, 1, 0));
    }

    private static void promise48() {
        Edge.sentence("48", "A told LOG by the first m twos (0 to 20) of the ROW in SHELF p: WRONG; NONE.");
        Supplier<WellIsAskedFirst> forty = Scene.but(Scene.thirds(Check.VOICE, 0, 10, 1), x -> x.row(1, Check.LONGS, 40));
        Edge.asked("no twos", forty, Check.NONE, x -> x.judge(0, 12, 1, 0));
        Edge.asked("twenty that are so", forty, Check.NONE, x -> x.judge(0, 12, 1, 20));
        Edge.asked("the twentieth", Scene.but(forty, x -> x.set(1, 39, 1)), 19, x -> x.judge(0, 1, 1, 20));
        Edge.asked("not of nineteen", Scene.but(forty, x -> x.set(1, 39, 1)), Check.NONE, x -> x.judge(0, 1, 1, 19));
        Edge.asked("the twentieth's VOICE", Scene.but(forty, x -> x.set(1, 38, 1)), 19, x -> x.judge(0, 1, 1, 20));
        Edge.asked("the first", Scene.but(forty, x -> x.set(1, 1, 1)), 0, x -> x.judge(0, 1, 1, 20));
        Edge.asked("the last VOICE", Scene.but(Scene::full, x -> Scene.row(x, 3, Check.BYTES, 7, 0, 8, 0)), 1,
            x -> x.judge(Scene.THREE, 1, 3, 2));
        Edge.asked("no VOICES", Scene::voiceless, 0, x -> x.judge(Scene.WORD, 1, Scene.WORD, 1));
        Edge.asked("no VOICES, no twos", Scene::voiceless, Check.NONE, x -> x.judge(Scene.WORD, 1, Scene.WORD, 0));
    }

    private static void promise48Refuses() {
        Edge.sentence("48", "BY A WORD (SHELF p, m; both SHELVES).");
        ByAWord.refusesTwo(20, 2, (x, s, n, p, m) -> x.judge(s, n, p, m));
        Supplier<WellIsAskedFirst> odd = Scene.but(Scene::laid, x -> x.row(6, Check.BYTES, 39));
        Edge.refused("39 elements are no twenty twos", odd, Check.BAD, x -> x.judge(0, 1, 6, 20));
        Edge.answers("39 elements are nineteen twos", odd, x -> x.judge(0, 1, 6, 19));
        Edge.refused("three elements are no two twos", Scene::laid, Check.BAD, x -> x.judge(0, 1, Scene.THREE, 2));
    }
}
