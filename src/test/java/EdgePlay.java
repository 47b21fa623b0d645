import java.util.function.Supplier;

/** The sentences on SUITS, BUCKETS and ODDS, and those of promises 33 to 35. */
final class EdgePlay {
    private static final int[] NO_WHAT = {Integer.MIN_VALUE, -1, 2, 3, Integer.MAX_VALUE};

    private EdgePlay() {
    }

    static void run() {
        suits();
        promise33();
        buckets();
        bucketsAt40();
        promise34();
        odds();
        promise35();
    }

    /** DEEP ones of these PITCHES; SHELF 0 holds twelve SOUNDS 0: each comes back as a third of DEPTH and PITCH. */
    private static Supplier<WellIsAskedFirst> deep(int depth, int w, int r, int... pitches) {
        return () -> {
            WellIsAskedFirst x = new WellIsAskedFirst();
            for (int pitch : pitches) {
                x.voice(Check.DEEP, 0, pitch);
            }
            x.row(0, Check.BYTES, 12);
            x.tell(0, depth);
            x.weigh(w, r);
            return x;
        };
    }

    private static void orderIs(String what, Supplier<WellIsAskedFirst> scene, int count, int... order) {
        Edge.asked(what + ": how many", scene, count, x -> x.suits(0, 1, Check.NONE));
        for (int i = 0; i < order.length; i++) {
            int at = i;
            Edge.asked(what + ": place " + i, scene, order[i], x -> x.suits(0, 1, at));
        }
        Edge.refused(what + ": not so many", scene, Check.STUCK, x -> x.suits(0, 1, order.length));
    }

    private static void suits() {
        Edge.sentence(Edge.COMES, "SUITS of one day: all VOICES shout one WORD one behind the other, each draws a bucket first "
            + "but the first one (DEPTH is 1 more each time, 40 at most): the ORDER by which most get YES, of several the first "
            + "by rows: how many; the i-th.");
        orderIs("no VOICES", deep(10, 5, 0), 0);
        orderIs("the first one draws none", deep(15, 5, 0, 0), 1, 0);
        orderIs("the first one draws none", deep(14, 5, 0, 0), 0, 0);
        orderIs("the second one draws one", deep(14, 5, 0, 0, 0), 1, 0, 1);
        orderIs("the second one draws one", deep(17, 5, 0, 0, 0), 1, 0, 1);
        orderIs("the third one, too", deep(13, 5, 0, 0, 0, 0), 1, 0, 1, 2);
        orderIs("40 at most", deep(40, 9, 4, 0, 0), 2, 0, 1);
        orderIs("40 at most", deep(39, 9, 4, 0, 0, 0, 0, 0, 0, 0, 0), 8, 0, 1, 2, 3, 4, 5, 6, 7);
        orderIs("41 would be one", deep(40, 9, 5, 1, 1), 0, 0, 1);
        orderIs("none gets YES", deep(0, 5, 4, 0, 0, 0, 0, 0, 0, 0, 0), 0, 0, 1, 2, 3, 4, 5, 6, 7);
        orderIs("1, 0", deep(14, 5, 0, 0, 1), 2, 1, 0);
        // 8 comes back from 24 on for three DEPTHS: the VOICE of PITCH 14 has it first at 10, that of 13 at 11, and so on.
        orderIs("the last first", deep(10, 9, 8, 7, 8, 9, 10, 11, 12, 13, 14), 8, 7, 6, 5, 4, 3, 2, 1, 0);
        orderIs("the first first", deep(10, 9, 8, 14, 13, 12, 11, 10, 9, 8, 7), 8, 0, 1, 2, 3, 4, 5, 6, 7);
        // Of PITCH 14 may shout at 10 to 12, of 13 at 11 to 13: which of two alike is which is no matter but for rows.
        orderIs("of several the first", deep(10, 9, 8, 13, 14, 14), 3, 1, 0, 2);
        orderIs("all the same", deep(0, 5, 0, 0, 0, 0), 3, 0, 1, 2);
    }

    private static void promise33() {
        Edge.sentence("33", "SUITS by a WORD: how many get YES (i NONE), the i-th VOICE.");
        orderIs("one", deep(15, 5, 0, 0), 1, 0);
        Edge.asked("no WORD: none", Scene::full, 0, x -> x.suits(Scene.EMPTY, 0, Check.NONE));
        Edge.asked("no WORD: the eighth", Scene::full, 7, x -> x.suits(Scene.EMPTY, 0, 7));
        Edge.sentence("33", "BY A WORD (i below NONE);");
        ByAWord.refuses(12, (x, s, n) -> x.suits(s, n, Check.NONE));
        ByAWord.refuses(12, (x, s, n) -> x.suits(s, n, 0));
        ByAWord.takes(12, (x, s, n) -> x.suits(s, n, Check.NONE));
        ByAWord.refusesNumbers("i", new int[] {-2, -3, Integer.MIN_VALUE}, (x, s, i) -> x.suits(s, 2, i));
        Edge.sentence("33", "STUCK: not so many.");
        for (int i : new int[] {0, 1, 8, Integer.MAX_VALUE}) {
            Edge.refused("i " + i + " of none", Scene::voiceless, Check.STUCK, x -> x.suits(0, 12, i));
        }
        for (int i : new int[] {6, 7, 8, Integer.MAX_VALUE}) {
            Edge.refused("i " + i + " of six", Scene::laid, Check.STUCK, x -> x.suits(0, 12, i));
        }
        for (int i : new int[] {8, 9, Integer.MAX_VALUE}) {
            Edge.refused("i " + i + " of eight", Scene::full, Check.STUCK, x -> x.suits(0, 12, i));
        }
    }

    private static void bucketsAre(Supplier<WellIsAskedFirst> scene, int depth, int k, int can, int move) {
        Supplier<WellIsAskedFirst> at = Scene.but(scene, x -> x.tell(0, depth));
        Edge.asked("whether at " + depth + " in " + k, at, can, x -> x.buckets(0, 1, 0, k, 0));
        Edge.asked("which at " + depth + " in " + k, at, move, x -> x.buckets(0, 1, 0, k, 1));
    }

    private static void buckets() {
        Edge.sentence(Edge.COMES, "BUCKETS, n turns (0 to 8): two by turns pour one (DEPTH 1 less, 0 at least), leave it, or draw "
            + "one (1 more, 40 at most); the first one (who begins) wants a VOICE to get YES then, the other one that it doesn't: "
            + "whether the first one can make it so: 1, 0; by which of his moves now (0 pour, 1 leave, 2 draw), of several the "
            + "first; NONE: by none, or n 0.");
        // YES at 0, 1, 2, 15, 16, 17, 30, 31, 32.
        Supplier<WellIsAskedFirst> x = deep(10, 5, 0, 0);
        bucketsAre(x, 15, 0, 1, Check.NONE);
        bucketsAre(x, 14, 0, 0, Check.NONE);
        bucketsAre(x, 0, 1, 1, 0);
        bucketsAre(x, 3, 1, 1, 0);
        bucketsAre(x, 4, 1, 0, Check.NONE);
        bucketsAre(x, 14, 1, 1, 2);
        bucketsAre(x, 15, 1, 1, 1);
        bucketsAre(x, 16, 1, 1, 0);
        bucketsAre(x, 18, 1, 1, 0);
        bucketsAre(x, 0, 2, 1, 0);
        bucketsAre(x, 1, 2, 1, 0);
        bucketsAre(x, 2, 2, 1, 0);
        bucketsAre(x, 3, 2, 0, Check.NONE);
        bucketsAre(x, 15, 2, 1, 2);
        bucketsAre(x, 16, 2, 1, 1);
        bucketsAre(x, 17, 2, 1, 0);
        bucketsAre(x, 14, 2, 0, Check.NONE);
        bucketsAre(x, 14, 3, 1, 2);
        bucketsAre(x, 13, 3, 0, Check.NONE);
        bucketsAre(x, 14, 7, 1, 2);
        bucketsAre(x, 14, 8, 0, Check.NONE);
        bucketsAre(x, 15, 8, 1, 2);
        bucketsAre(x, 17, 8, 1, 0);
        bucketsAre(x, 0, 8, 1, 0);
        bucketsAre(x, 3, 8, 0, Check.NONE);
        // 0 is LOST at 0 for a VOICE: VOID is no YES. 1 and 2 are left, and the other one can always leave them.
        Supplier<WellIsAskedFirst> voice = Scene.but(Scene.thirds(Check.VOICE, 0, 10, 1), y -> y.weigh(5, 0));
        bucketsAre(voice, 0, 0, 0, Check.NONE);
        bucketsAre(voice, 0, 1, 1, 2);
        bucketsAre(voice, 0, 2, 0, Check.NONE);
        bucketsAre(voice, 1, 2, 0, Check.NONE);
    }

    private static void bucketsAt40() {
        // YES at 12, 13, 14, 39, 40.
        Supplier<WellIsAskedFirst> x = deep(10, 9, 4, 0);
        bucketsAre(x, 40, 0, 1, Check.NONE);
        bucketsAre(x, 40, 1, 1, 0);
        bucketsAre(x, 39, 1, 1, 1);
        bucketsAre(x, 38, 1, 1, 2);
        bucketsAre(x, 37, 1, 0, Check.NONE);
        bucketsAre(x, 40, 2, 1, 1);
        bucketsAre(x, 39, 2, 1, 2);
        bucketsAre(x, 38, 2, 0, Check.NONE);
        bucketsAre(x, 40, 8, 1, 1);
        bucketsAre(x, 39, 8, 1, 2);
        bucketsAre(x, 38, 8, 0, Check.NONE);
        // YES at 40 alone: the first one alone can hold it, the other one can always pour.
        Supplier<WellIsAskedFirst> priest = Scene.but(Scene.thirds(Check.PRIEST, 13, 10, 1), y -> y.weigh(9, 2));
        bucketsAre(priest, 40, 1, 1, 1);
        bucketsAre(priest, 39, 1, 1, 2);
        bucketsAre(priest, 40, 2, 0, Check.NONE);
        bucketsAre(priest, 40, 3, 1, 1);
    }

    private static void promise34() {
        Edge.sentence("34", "BUCKETS, k turns, by a VOICE: whether (what 0), the move (1; NONE).");
        Supplier<WellIsAskedFirst> twelve = deep(10, 3, 0, 0);
        for (int turns = 1; turns <= 8; turns++) {
            int k = turns;
            Edge.asked("all DEPTHS get YES, " + k, twelve, 1, x -> x.buckets(0, 12, 0, k, 0));
            Edge.asked("the first move does, " + k, twelve, 0, x -> x.buckets(0, 12, 0, k, 1));
        }
        Edge.sentence("34", "BY A WORD (voice, k, what).");
        ByAWord.refuses(12, (x, s, n) -> x.buckets(s, n, 0, 1, 0));
        ByAWord.takes(12, (x, s, n) -> x.buckets(s, n, 0, 8, 1));
        ByAWord.takes(12, (x, s, n) -> x.buckets(s, n, 0, 0, 0));
        ByAWord.refusesVoices((x, s, voice) -> x.buckets(s, 2, voice, 1, 0));
        int[] bad = {Integer.MIN_VALUE, -2, -1, 9, 10, Integer.MAX_VALUE};
        ByAWord.refusesNumbers("k", bad, (x, s, k) -> x.buckets(s, 2, 0, k, 0));
        ByAWord.refusesNumbers("what", NO_WHAT, (x, s, what) -> x.buckets(s, 2, 0, 1, what));
        Edge.sentence("34", "(NONE isn't refused.)");
        Edge.asked("no turns", twelve, Check.NONE, x -> x.buckets(0, 12, 0, 0, 1));
        Edge.asked("no move", deep(10, 3, 1, 0), Check.NONE, x -> x.buckets(0, 12, 0, 8, 1));
    }

    private static void oddsAre(String what, Supplier<WellIsAskedFirst> scene, int t, int odds, int mean) {
        Edge.asked(what + ": how likely in " + t, scene, odds, x -> x.odds(0, 1, 0, t, 0));
        Edge.asked(what + ": the mean in " + t, scene, mean, x -> x.odds(0, 1, 0, t, 1));
    }

    /** By each of the 1000 ways that three RAINS may go; YES if a third of DEPTH is REST by WEIGHT. */
    private static void oddsOfThree(int depth, int w, int r) {
        int yeses = 0;
        int depths = 0;
        for (int way = 0; way < 1000; way++) {
            int then = depth;
            for (int rain : new int[] {way / 100, way / 10 % 10, way % 10}) {
                then = Math.max(0, Math.min(40, then + 1 - rain));
            }
            yeses += then / 3 % w == r ? 1 : 0;
            depths += then;
        }
        oddsAre("from " + depth, deep(depth, w, r, 0), 3, 1000 * yeses, depths);
    }

    private static void odds() {
        Edge.sentence(Edge.COMES, "ODDS for t DAYS (0 to 3), RAIN being 0 to 9 each alike each day: of 1,000,000 (cut), how likely "
            + "a VOICE gets YES then; 1000 times the mean of DEPTH then (cut).");
        oddsAre("now, from 0", deep(0, 5, 0, 0), 0, 1000000, 0);
        oddsAre("now, from 40", deep(40, 5, 0, 0), 0, 0, 40000);
        oddsAre("1 in one of ten ways", deep(0, 5, 0, 0), 1, 1000000, 100);
        oddsAre("32 to 40, and 40 once more", deep(40, 9, 4, 0), 1, 300000, 36400);
        oddsAre("all RAINS, 0 too", deep(14, 5, 0, 0), 1, 100000, 10500);
        oddsAre("all RAINS, 9 too", deep(25, 9, 5, 0), 1, 100000, 21500);
        oddsAre("RAIN as it is is no matter", Scene.but(deep(25, 9, 5, 0), x -> x.tell(1, 9)), 1, 100000, 21500);
        oddsAre("0 in 89 of 100 ways, 1 in ten, 2 in one", deep(0, 5, 0, 0), 2, 1000000, 120);
        for (int depth : new int[] {0, 1, 2, 8, 20, 38, 39, 40}) {
            oddsOfThree(depth, 5, 0);
            oddsOfThree(depth, 9, 4);
        }
        Supplier<WellIsAskedFirst> never = Scene.but(Scene.thirds(Check.VOICE, 0, 7, 1), x -> x.weigh(5, 2));
        oddsAre("VOID is no YES", never, 0, 0, 7000);
        Supplier<WellIsAskedFirst> child = Scene.but(Scene.thirds(Check.CHILD, 0, 10, 1), x -> {
            x.tell(2, 7);
            x.weigh(9, 4);
        });
        // From 7 to 10 in three DAYS: only then a third of 11 and 1 is 4.
        oddsAre("a CHILD's day is not that then", child, 1, 0, 6500);
        oddsAre("a CHILD's day is that then", Scene.but(child, x -> x.tell(2, 9)), 1, 100000, 6500);
        Supplier<WellIsAskedFirst> late = Scene.but(child, x -> {
            x.tell(2, 9999);
            x.weigh(9, 8);
        });
        // Thirds of 999 and 2 to 11 are 333 to 336, 13 to 16 by 40: none is 8 by 9.
        oddsAre("DAY 9999 stays", late, 1, 0, 6500);
    }

    private static void promise35() {
        Edge.sentence("35", "ODDS for t DAYS by a VOICE: how likely (what 0), the mean of DEPTH (1).");
        for (int days = 0; days <= 3; days++) {
            int t = days;
            Edge.asked("sure, in " + t, deep(20, 3, 0, 0), 1000000, x -> x.odds(0, 12, 0, t, 0));
            Edge.asked("never, in " + t, deep(20, 3, 1, 0), 0, x -> x.odds(0, 12, 0, t, 0));
            Edge.asked("no WORD, in " + t, Scene::laid, 0, x -> x.odds(Scene.EMPTY, 0, 0, t, 0));
            Edge.asked("the mean, in " + t, deep(30, 3, 1, 0), 30000 - 3500 * t, x -> x.odds(0, 12, 0, t, 1));
        }
        Edge.sentence("35", "BY A WORD (voice, t, what).");
        ByAWord.refuses(12, (x, s, n) -> x.odds(s, n, 0, 1, 0));
        ByAWord.takes(12, (x, s, n) -> x.odds(s, n, 0, 3, 1));
        ByAWord.takes(12, (x, s, n) -> x.odds(s, n, 0, 0, 0));
        ByAWord.refusesVoices((x, s, voice) -> x.odds(s, 2, voice, 1, 0));
        int[] bad = {Integer.MIN_VALUE, -2, -1, 4, 5, Integer.MAX_VALUE};
        ByAWord.refusesNumbers("t", bad, (x, s, t) -> x.odds(s, 2, 0, t, 0));
        ByAWord.refusesNumbers("what", NO_WHAT, (x, s, what) -> x.odds(s, 2, 0, 1, what));
    }
}
