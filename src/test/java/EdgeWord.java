import java.util.function.Supplier;

/** The sentences on what comes of a WORD: BY A WORD, and those of promises 19 to 27 and 36 to 44. */
final class EdgeWord {
    private static final int[] NO_WHAT = {Integer.MIN_VALUE, -1, 2, 3, Integer.MAX_VALUE};

    private EdgeWord() {
    }

    static void run() {
        byAWord();
        promise19();
        promise20();
        promise21();
        promise22();
        promise23();
        promise24();
        promise25();
        promise26();
        promise27();
        promise36();
        promise37();
        promise38();
        promise39();
        promise40();
        promise41();
        promise42();
        promise43();
        promise44();
    }

    private static Supplier<WellIsAskedFirst> thirds(int kind, int pitch, int depth, int rain, int w, int r) {
        return Scene.but(Scene.thirds(kind, pitch, depth, rain), x -> x.weigh(w, r));
    }

    /** Eight DEEP ones of PITCH 0; SHELF 0 holds twelve SOUNDS 0. */
    private static Supplier<WellIsAskedFirst> eight(int depth, int w, int r) {
        return Scene.but(thirds(Check.DEEP, 0, depth, 1, w, r), x -> {
            for (int voice = 1; voice < 8; voice++) {
                x.voice(Check.DEEP, 0, 0);
            }
        });
    }

    private static Supplier<WellIsAskedFirst> word(Supplier<WellIsAskedFirst> scene, long... sounds) {
        return Scene.but(scene, x -> Scene.row(x, 0, Check.BYTES, sounds));
    }

    private static void byAWord() {
        Edge.sentence(Edge.BY_A_WORD, "Where a call takes a WORD, by the first n elements (0 to 12) of the ROW in SHELF s, "
            + "its refusals are: BAD SHELF, n, and all other numbers of it; OTHER; NOTHING; BAD: fewer elements; "
            + "STUCK: no SOUND. (Told as: BY A WORD.)");
        ByAWord.refuses(12, (x, s, n) -> x.heard(s, n));
        ByAWord.takes(12, (x, s, n) -> x.heard(s, n));
        ByAWord.refusesNumbers("other number", NO_WHAT, (x, s, v) -> x.best(s, 2, v));
    }

    private static void promise19() {
        Edge.sentence("19", "ECHO of a WORD by a VOICE: how many SOUNDS (i NONE), the i-th.");
        Edge.asked("none", Scene::laid, 0, x -> x.echo(Scene.EMPTY, 0, 0, Check.NONE));
        Edge.asked("thirteen", Scene.thirds(Check.STUTTERER, 0, 10, 1), 13, x -> x.echo(0, 12, 0, Check.NONE));
        Edge.asked("the thirteenth", Scene.thirds(Check.STUTTERER, 0, 10, 1), 3, x -> x.echo(0, 12, 0, 12));
        Edge.asked("the first", Scene::laid, 7, x -> x.echo(Scene.THREE, 3, 0, 0));
        Edge.asked("the last", Scene::laid, 6, x -> x.echo(Scene.THREE, 3, 0, 2));
        Edge.sentence("19", "BY A WORD (voice; i below NONE);");
        ByAWord.refuses(12, (x, s, n) -> x.echo(s, n, 0, Check.NONE));
        ByAWord.takes(12, (x, s, n) -> x.echo(s, n, 0, Check.NONE));
        ByAWord.refusesVoices((x, s, voice) -> x.echo(s, 2, voice, Check.NONE));
        ByAWord.refusesNumbers("i", new int[] {-2, -3, Integer.MIN_VALUE}, (x, s, i) -> x.echo(s, 2, 0, i));
        Edge.sentence("19", "STUCK: not so many.");
        for (int i : new int[] {0, 1, Integer.MAX_VALUE}) {
            Edge.refused("i " + i + " of none", Scene::laid, Check.STUCK, x -> x.echo(Scene.EMPTY, 0, 0, i));
            Edge.refused("i " + i + " of VOID", Scene.thirds(Check.VOICE, 0, 0, 1), Check.STUCK, x -> x.echo(0, 12, 0, i));
        }
        Edge.refused("i 3 of three", Scene::laid, Check.STUCK, x -> x.echo(Scene.THREE, 3, 0, 3));
        Edge.refused("i 2, one of three LOST", Scene::laid, Check.STUCK, x -> x.echo(Scene.WORD, 3, 0, 2));
        Edge.refused("i 13 of thirteen", Scene.thirds(Check.STUTTERER, 0, 10, 1), Check.STUCK, x -> x.echo(0, 12, 0, 13));
        Edge.refused("i 12 of twelve", Scene.thirds(Check.DEEP, 0, 10, 1), Check.STUCK, x -> x.echo(0, 12, 0, 12));
    }

    private static void promise20() {
        Edge.sentence("20", "All SOUNDS of the ECHO together.");
        Edge.asked("none", Scene::laid, 0, x -> x.sum(Scene.EMPTY, 0, 0));
        Edge.asked("VOID", Scene.thirds(Check.VOICE, 20, 0, 1), 0, x -> x.sum(0, 12, 0));
        Supplier<WellIsAskedFirst> high = Scene.but(Scene.thirds(Check.DEEP, 0, 0, 1),
            x -> Scene.row(x, 0, Check.BYTES, 39, 39, 39, 39, 39, 39, 39, 39, 39, 39, 39, 39));
        Edge.asked("twelve times 39", high, 468, x -> x.sum(0, 12, 0));
        Edge.asked("thirteen times 13", Scene.thirds(Check.PROPHET, 0, 40, 1), 169, x -> x.sum(0, 12, 0));
        Edge.sentence("20", "BY A WORD (voice).");
        ByAWord.refuses(12, (x, s, n) -> x.sum(s, n, 0));
        ByAWord.takes(12, (x, s, n) -> x.sum(s, n, 0));
        ByAWord.refusesVoices((x, s, voice) -> x.sum(s, 2, voice));
    }

    private static void promise21() {
        Edge.sentence("21", "How a WORD of a VOICE is WEIGHED; NONE.");
        Edge.asked("YES", thirds(Check.VOICE, 0, 40, 1, 9, 4), 1, x -> x.weighed(0, 1, 0));
        Edge.asked("no", thirds(Check.VOICE, 0, 40, 1, 9, 5), 0, x -> x.weighed(0, 1, 0));
        Edge.asked("no, one less", thirds(Check.VOICE, 0, 40, 1, 9, 3), 0, x -> x.weighed(0, 1, 0));
        Edge.sentence("21", "BY A WORD (voice).");
        ByAWord.refuses(12, (x, s, n) -> x.weighed(s, n, 0));
        ByAWord.takes(12, (x, s, n) -> x.weighed(s, n, 0));
        ByAWord.refusesVoices((x, s, voice) -> x.weighed(s, 2, voice));
        Edge.sentence("21", "(NONE isn't refused.)");
        Edge.asked("no SOUND", Scene::laid, Check.NONE, x -> x.weighed(Scene.EMPTY, 0, 1));
        Edge.asked("VOID", Scene.thirds(Check.VOICE, 0, 14, 1), Check.NONE, x -> x.weighed(0, 12, 0));
    }

    private static void promise22() {
        Edge.sentence(Edge.COMES, "Of a WORD: HEARD: VOICES (bits) that get YES.");
        Edge.asked("all eight", eight(0, 5, 0), 255, x -> x.heard(0, 1));
        Edge.asked("none of eight", eight(0, 5, 1), 0, x -> x.heard(0, 1));
        Edge.asked("VOID is no YES", eight(0, 5, 0), 0, x -> x.heard(0, 0));
        Edge.asked("the first alone", Scene.but(eight(40, 9, 5), x -> x.pitch(0, 2)), 1, x -> x.heard(0, 1));
        Edge.asked("the last alone", Scene.but(eight(40, 9, 5), x -> x.pitch(7, 2)), 128, x -> x.heard(0, 1));
        Edge.asked("no VOICES", Scene::voiceless, 0, x -> x.heard(Scene.WORD, 12));
        Edge.sentence("22", "HEARD.");
        Edge.asked("all eight but one", Scene.but(eight(0, 5, 0), x -> x.pitch(4, 3)), 255 - 16, x -> x.heard(0, 12));
        Edge.sentence("22", "BY A WORD.");
        ByAWord.refuses(12, (x, s, n) -> x.heard(s, n));
        ByAWord.takes(12, (x, s, n) -> x.heard(s, n));
        Edge.refused("no VOICES, no SOUND", Scene::voiceless, Check.STUCK, x -> x.heard(Scene.TOO_HIGH, 2));
    }

    /** A CHILD at 40: a third of 40 and a tenth of DAY is 16, which leaves 7 by 9, from day 80 to 109. */
    private static Supplier<WellIsAskedFirst> childOfDay(int day) {
        return Scene.but(thirds(Check.CHILD, 0, 40, 1, 9, 7), x -> x.tell(2, day));
    }

    private static void promise23() {
        Edge.sentence(Edge.COMES, "WHEN by a VOICE: behind how many DAYS (0 to 60), RAIN as it is, it first gets YES; NONE.");
        Edge.asked("now", thirds(Check.VOICE, 0, 15, 0, 5, 0), 0, x -> x.when(0, 1, 0));
        Edge.asked("behind one", thirds(Check.VOICE, 0, 29, 0, 5, 0), 1, x -> x.when(0, 1, 0));
        Edge.asked("behind 59", childOfDay(21), 59, x -> x.when(0, 1, 0));
        Edge.asked("behind 60", childOfDay(20), 60, x -> x.when(0, 1, 0));
        Edge.asked("not behind 61", childOfDay(19), Check.NONE, x -> x.when(0, 1, 0));
        Edge.asked("RAIN 1: it stays", thirds(Check.VOICE, 0, 14, 1, 5, 0), Check.NONE, x -> x.when(0, 1, 0));
        Edge.asked("RAIN 9: 29, 21, 13, 5, 0", thirds(Check.DEEP, 0, 37, 9, 5, 0), 5, x -> x.when(0, 1, 0));
        Edge.asked("the last day stays", Scene.but(childOfDay(0), x -> x.tell(2, 9999)), Check.NONE, x -> x.when(0, 1, 0));
        Edge.sentence("23", "WHEN by a VOICE; NONE.");
        Edge.asked("of several the first", thirds(Check.VOICE, 0, 3, 0, 5, 0), 12, x -> x.when(0, 1, 0));
        Edge.sentence("23", "BY A WORD (voice).");
        ByAWord.refuses(12, (x, s, n) -> x.when(s, n, 0));
        ByAWord.takes(12, (x, s, n) -> x.when(s, n, 0));
        ByAWord.refusesVoices((x, s, voice) -> x.when(s, 2, voice));
        Edge.sentence("23", "(NONE isn't refused.)");
        Edge.asked("no WORD gets it", Scene::laid, Check.NONE, x -> x.when(Scene.EMPTY, 0, 0));
    }

    /** A CHILD at 40 of PITCH 20: thirds of 39 and of 40 (which is 0) are multiples of 3, on days 570 to 629. */
    private static Supplier<WellIsAskedFirst> sureOfDay(int day) {
        return Scene.but(thirds(Check.CHILD, 20, 40, 1, 3, 0), x -> x.tell(2, day));
    }

    private static void promise24() {
        Edge.sentence(Edge.COMES, "SURE: on how many DAYS on end from now on (0 to 60) it gets YES.");
        Edge.asked("not now", sureOfDay(569), 0, x -> x.sure(0, 1, 0));
        Edge.asked("on 60, not on the next", sureOfDay(570), 60, x -> x.sure(0, 1, 0));
        Edge.asked("on 59, not on the next", sureOfDay(571), 59, x -> x.sure(0, 1, 0));
        Edge.asked("on one, not on the next", sureOfDay(629), 1, x -> x.sure(0, 1, 0));
        Edge.asked("not any more", sureOfDay(630), 0, x -> x.sure(0, 1, 0));
        Edge.asked("for ever", thirds(Check.VOICE, 0, 15, 1, 5, 0), 60, x -> x.sure(0, 1, 0));
        Edge.asked("only what is on end", thirds(Check.VOICE, 0, 17, 0, 5, 0), 1, x -> x.sure(0, 1, 0));
        Edge.asked("VOID at 14 ends it", thirds(Check.VOICE, 0, 8, 0, 3, 0), 6, x -> x.sure(0, 3, 0));
        Edge.sentence("24", "SURE by a VOICE.");
        Edge.asked("15, 16, 17", thirds(Check.VOICE, 0, 15, 0, 5, 0), 3, x -> x.sure(0, 1, 0));
        Edge.asked("60 at most", thirds(Check.VOICE, 0, 15, 1, 5, 0), 60, x -> x.sure(0, 1, 0));
        Edge.asked("no WORD", Scene::laid, 0, x -> x.sure(Scene.EMPTY, 0, 0));
        Edge.sentence("24", "BY A WORD (voice).");
        ByAWord.refuses(12, (x, s, n) -> x.sure(s, n, 0));
        ByAWord.takes(12, (x, s, n) -> x.sure(s, n, 0));
        ByAWord.refusesVoices((x, s, voice) -> x.sure(s, 2, voice));
    }

    private static void yesesAre(String what, Supplier<WellIsAskedFirst> scene, int n, int count, int least) {
        Edge.asked(what + ": how many", scene, count, x -> x.yeses(0, n, 0, 0));
        Edge.asked(what + ": the least", scene, least, x -> x.yeses(0, n, 0, 1));
    }

    private static void promise25() {
        Edge.sentence("25", "DEPTHS (0 to 40), all else as it is, by which a VOICE gets YES: how many (what 0), the least (1; NONE).");
        // Three times a third is a multiple of 3 by any DEPTH.
        yesesAre("all", thirds(Check.DEEP, 0, 7, 1, 3, 0), 3, 41, 0);
        yesesAre("all but where it is LOST", thirds(Check.VOICE, 0, 7, 1, 3, 0), 3, 35, 1);
        yesesAre("none", thirds(Check.DEEP, 0, 7, 1, 3, 1), 3, 0, Check.NONE);
        yesesAre("0 and 1", thirds(Check.PRIEST, 20, 7, 1, 9, 6), 1, 2, 0);
        // A third of 20 and 13 is 11; of 19 and 13 it is 10.
        yesesAre("40 alone", thirds(Check.PRIEST, 13, 7, 1, 9, 2), 1, 1, 40);
        yesesAre("18 to 20, 39 and 40", thirds(Check.VOICE, 0, 7, 9, 7, 6), 1, 5, 18);
        Edge.sentence("25", "BY A WORD (voice, what).");
        ByAWord.refuses(12, (x, s, n) -> x.yeses(s, n, 0, 0));
        ByAWord.takes(12, (x, s, n) -> x.yeses(s, n, 0, 1));
        ByAWord.refusesVoices((x, s, voice) -> x.yeses(s, 2, voice, 0));
        ByAWord.refusesNumbers("what", NO_WHAT, (x, s, what) -> x.yeses(s, 2, 0, what));
        Edge.sentence("25", "(NONE isn't refused.)");
        Edge.asked("no WORD", Scene::laid, Check.NONE, x -> x.yeses(Scene.EMPTY, 0, 0, 1));
    }

    private static void promise26() {
        Edge.sentence("26", "PITCHES (bits 0 to 20), all else as it is, by which a VOICE gets YES.");
        Edge.asked("all", thirds(Check.DEEP, 3, 10, 1, 3, 0), (1 << 21) - 1, x -> x.tuned(0, 3, 0));
        Edge.asked("none", thirds(Check.DEEP, 3, 10, 1, 3, 1), 0, x -> x.tuned(0, 3, 0));
        // Thirds of 2 to 22 are 0 (once) to 7; thirds of 1 to 21 are 0 to 7 (once).
        Edge.asked("0 alone", thirds(Check.VOICE, 3, 2, 1, 8, 0), 1, x -> x.tuned(0, 1, 0));
        Edge.asked("20 alone", thirds(Check.VOICE, 3, 1, 1, 8, 7), 1 << 20, x -> x.tuned(0, 1, 0));
        Edge.asked("LOST by all", thirds(Check.VOICE, 3, 7, 1, 5, 0), 0, x -> x.tuned(0, 12, 0));
        Edge.asked("no WORD", Scene::laid, 0, x -> x.tuned(Scene.EMPTY, 0, 0));
        Supplier<WellIsAskedFirst> child = Scene.but(thirds(Check.CHILD, 3, 1, 1, 8, 7), x -> x.tell(2, 19));
        Edge.asked("a CHILD's day is as it is", child, 3 << 19, x -> x.tuned(0, 1, 0));
        Edge.sentence("26", "BY A WORD (voice).");
        ByAWord.refuses(12, (x, s, n) -> x.tuned(s, n, 0));
        ByAWord.takes(12, (x, s, n) -> x.tuned(s, n, 0));
        ByAWord.refusesVoices((x, s, voice) -> x.tuned(s, 2, voice));
    }

    private static void promise27() {
        Edge.sentence("27", "The least SOUND (0 to 39) which, behind a WORD of 11 SOUNDS at most, gets a VOICE YES; NONE.");
        Edge.asked("0", Scene.thirds(Check.DEEP, 0, 0, 1), 0, x -> x.ends(0, 0, 0));
        Edge.asked("39", thirds(Check.VOICE, 0, 27, 1, 9, 8), 39, x -> x.ends(0, 0, 0));
        Edge.asked("none", thirds(Check.STUTTERER, 0, 10, 1, 2, 1), Check.NONE, x -> x.ends(0, 0, 0));
        // Eleven times 3 is 33; 3 comes back as 6, and 39 is 7 by 8. Twelve times 3 is 36, and 0 comes back as 3.
        Edge.asked("behind 11", thirds(Check.DEEP, 0, 10, 1, 8, 7), 3, x -> x.ends(0, 11, 0));
        Edge.asked("behind 11 that are twelve", thirds(Check.STUTTERER, 0, 10, 1, 8, 7), 0, x -> x.ends(0, 11, 0));
        Edge.asked("a LOST one behind a WORD that has YES", thirds(Check.VOICE, 0, 10, 1, 5, 3), 4, x -> x.ends(0, 1, 0));
        Supplier<WellIsAskedFirst> eleven = Scene.but(thirds(Check.DEEP, 0, 10, 1, 8, 7), x -> x.row(0, Check.BYTES, 11));
        Edge.asked("behind all of a ROW of 11", eleven, 3, x -> x.ends(0, 11, 0));
        Edge.sentence("27", "BY A WORD (voice; n 0 to 11).");
        ByAWord.refuses(11, (x, s, n) -> x.ends(s, n, 0));
        ByAWord.takes(11, (x, s, n) -> x.ends(s, n, 0));
        ByAWord.refusesVoices((x, s, voice) -> x.ends(s, 2, voice));
        Edge.sentence("27", "(NONE isn't refused.)");
        Edge.asked("none", thirds(Check.PROPHET, 0, 10, 1, 2, 1), Check.NONE, x -> x.ends(0, 0, 0));
    }

    private static void promise36() {
        Edge.sentence("36", "DEPTH behind n DAYS (0 to 200), RAIN as it is.");
        Edge.asked("now", Scene.thirds(0, 0, 40, 9), 40, x -> x.ahead(0));
        Edge.asked("one", Scene.thirds(0, 0, 40, 9), 32, x -> x.ahead(1));
        Edge.asked("up to 39", Scene.thirds(0, 0, 0, 0), 39, x -> x.ahead(39));
        Edge.asked("up to 40", Scene.thirds(0, 0, 0, 0), 40, x -> x.ahead(40));
        Edge.asked("not beyond 40", Scene.thirds(0, 0, 0, 0), 40, x -> x.ahead(41));
        Edge.asked("200 of them", Scene.thirds(0, 0, 0, 0), 40, x -> x.ahead(200));
        Edge.asked("down to 0", Scene.thirds(0, 0, 40, 2), 1, x -> x.ahead(39));
        Edge.asked("down to 0", Scene.thirds(0, 0, 40, 2), 0, x -> x.ahead(40));
        Edge.asked("not below 0", Scene.thirds(0, 0, 40, 2), 0, x -> x.ahead(200));
        Edge.asked("it stays", Scene.thirds(0, 0, 17, 1), 17, x -> x.ahead(200));
        Edge.sentence("36", "BAD.");
        for (int n : new int[] {Integer.MIN_VALUE, -2, -1, 201, 202, Integer.MAX_VALUE}) {
            Edge.refused("n " + n, Scene::laid, Check.BAD, x -> x.ahead(n));
        }
    }

    private static void promise37() {
        Edge.sentence("37", "The least RAIN (0 to 9) by which a VOICE gets YES behind t DAYS (0 to 60); NONE.");
        Edge.asked("today, any RAIN", thirds(Check.DEEP, 0, 15, 9, 5, 0), 0, x -> x.rains(0, 1, 0, 0));
        Edge.asked("today, none", thirds(Check.DEEP, 0, 10, 9, 5, 0), Check.NONE, x -> x.rains(0, 1, 0, 0));
        Edge.asked("RAIN 0", thirds(Check.DEEP, 0, 14, 9, 5, 0), 0, x -> x.rains(0, 1, 0, 1));
        Edge.asked("RAIN 9", thirds(Check.DEEP, 0, 10, 0, 5, 0), 9, x -> x.rains(0, 1, 0, 1));
        Edge.asked("of several the least", thirds(Check.DEEP, 0, 10, 0, 5, 0), 2, x -> x.rains(0, 1, 0, 60));
        Edge.asked("no RAIN", thirds(Check.DEEP, 0, 12, 0, 5, 0), Check.NONE, x -> x.rains(0, 1, 0, 1));
        // A CHILD of PITCH 2 at 40: 16 from day 60 on; by more RAIN than 1 it is at 0, where 0 is LOST.
        Edge.asked("behind 60", thirds(Check.CHILD, 2, 40, 9, 8, 0), 0, x -> x.rains(0, 1, 0, 60));
        Edge.asked("not behind 59", thirds(Check.CHILD, 2, 40, 9, 8, 0), Check.NONE, x -> x.rains(0, 1, 0, 59));
        Edge.sentence("37", "BY A WORD (voice, t).");
        ByAWord.refuses(12, (x, s, n) -> x.rains(s, n, 0, 1));
        ByAWord.takes(12, (x, s, n) -> x.rains(s, n, 0, 60));
        ByAWord.refusesVoices((x, s, voice) -> x.rains(s, 2, voice, 0));
        int[] bad = {Integer.MIN_VALUE, -2, -1, 61, 62, Integer.MAX_VALUE};
        ByAWord.refusesNumbers("t", bad, (x, s, t) -> x.rains(s, 2, 0, t));
        Edge.sentence("37", "(NONE isn't refused.)");
        Edge.asked("no WORD", Scene::laid, Check.NONE, x -> x.rains(Scene.EMPTY, 0, 0, 60));
    }

    private static void promise38() {
        Edge.sentence("38", "The WEIGHT (2 to 9), REST as it is if that may be, by which most VOICES get YES, of several the least.");
        Edge.asked("2, of several", thirds(Check.DEEP, 0, 36, 1, 9, 0), 2, x -> x.fairest(0, 1));
        // 13 is 4 by 9 alone.
        Edge.asked("9", thirds(Check.DEEP, 0, 40, 1, 5, 4), 9, x -> x.fairest(0, 1));
        Edge.asked("REST 8 may be by 9 alone", thirds(Check.DEEP, 0, 40, 1, 9, 8), 9, x -> x.fairest(0, 1));
        // 13 is 3 by 5 and 1 by 2: REST is never as it is modulo another WEIGHT.
        Edge.asked("REST 3, not 1", thirds(Check.DEEP, 0, 40, 1, 5, 3), 5, x -> x.fairest(0, 1));
        // 8 leaves 4 by none that is more than 4.
        Edge.asked("none gets YES: the least that may be", thirds(Check.DEEP, 0, 24, 1, 5, 4), 5, x -> x.fairest(0, 1));
        Edge.asked("REST 1 may be by 2", thirds(Check.DEEP, 0, 40, 1, 5, 1), 2, x -> x.fairest(0, 1));
        Edge.asked("no VOICES", Scene::voiceless, 2, x -> x.fairest(Scene.WORD, 12));
        Edge.asked("no WORD", Scene::laid, 2, x -> x.fairest(Scene.EMPTY, 0));
        // 13, 14 and 14: by 2 and by 7 two get YES. Then 15, 15 and 16: by 2 one, by 3 two.
        Supplier<WellIsAskedFirst> three = Scene.but(thirds(Check.DEEP, 0, 39, 1, 7, 0), x -> {
            x.voice(Check.DEEP, 0, 3);
            x.voice(Check.DEEP, 0, 3);
        });
        Edge.asked("most get YES", three, 2, x -> x.fairest(0, 1));
        Edge.asked("the most, not the first", Scene.but(three, x -> {
            x.pitch(0, 6);
            x.pitch(1, 6);
            x.pitch(2, 9);
        }), 3, x -> x.fairest(0, 1));
        Edge.sentence("38", "BY A WORD.");
        ByAWord.refuses(12, (x, s, n) -> x.fairest(s, n));
        ByAWord.takes(12, (x, s, n) -> x.fairest(s, n));
    }

    private static void promise39() {
        Edge.sentence("39", "Whether two VOICES have the same ECHO: 1, 0.");
        Edge.asked("none of both", Scene::laid, 1, x -> x.alike(Scene.EMPTY, 0, 3, 4));
        Edge.asked("none of one", Scene::laid, 0, x -> x.alike(Scene.WORD, 2, 0, 1));
        Edge.asked("its own", Scene::laid, 1, x -> x.alike(Scene.WORD, 12, 4, 4));
        Edge.asked("as long, but turned", Scene::laid, 0, x -> x.alike(Scene.THREE, 3, 2, 4));
        Edge.asked("longer", Scene::laid, 0, x -> x.alike(Scene.THREE, 3, 0, 2));
        Edge.asked("VOID for both", Scene.thirds(Check.VOICE, 0, 7, 1), 1, x -> x.alike(0, 12, 0, 0));
        // By thirds of 10 and of 70, which are 3 and 23, 1 comes back as 7; 0 as 3 and 23.
        Supplier<WellIsAskedFirst> late = Scene.but(Scene::laid, x -> x.tell(2, 600));
        Supplier<WellIsAskedFirst> last = word(late, 1, 1, 1, 1, 1, 1, 1, 1, 1, 1, 1, 0);
        Edge.asked("the last SOUND is another", last, 0, x -> x.alike(0, 12, 0, 5));
        Edge.asked("but for the last SOUND", last, 1, x -> x.alike(0, 11, 0, 5));
        Edge.asked("the first SOUND is another", word(late, 0, 1, 1), 0, x -> x.alike(0, 3, 0, 5));
        Edge.sentence("39", "BY A WORD (voices).");
        ByAWord.refuses(12, (x, s, n) -> x.alike(s, n, 0, 1));
        ByAWord.takes(12, (x, s, n) -> x.alike(s, n, 0, 1));
        ByAWord.refusesVoices((x, s, voice) -> x.alike(s, 2, voice, 0));
        ByAWord.refusesVoices((x, s, voice) -> x.alike(s, 2, 0, voice));
    }

    private static void promise40() {
        Edge.sentence("40", "The place (0 to n less 1) of the first SOUND without which a VOICE gets YES; NONE.");
        // 0, 2, 1 come back as 3, 11, 7.
        Edge.asked("0", word(thirds(Check.VOICE, 0, 10, 1, 5, 3), 0, 2, 1), 0, x -> x.less(0, 3, 0));
        Edge.asked("n less 1", word(thirds(Check.VOICE, 0, 10, 1, 9, 5), 0, 2, 1), 2, x -> x.less(0, 3, 0));
        Edge.asked("none", word(thirds(Check.VOICE, 0, 10, 1, 9, 3), 0, 2, 1), Check.NONE, x -> x.less(0, 3, 0));
        Supplier<WellIsAskedFirst> twelve = word(thirds(Check.DEEP, 0, 10, 1, 9, 6), 0, 0, 0, 0, 0, 0, 0, 0, 0, 0, 0, 1);
        Edge.asked("the twelfth", twelve, 11, x -> x.less(0, 12, 0));
        Edge.asked("not one behind the WORD", twelve, Check.NONE, x -> x.less(0, 11, 0));
        Edge.asked("of several the first", thirds(Check.DEEP, 0, 10, 1, 3, 0), 0, x -> x.less(0, 12, 0));
        Edge.asked("one alone: VOID is left", thirds(Check.DEEP, 0, 0, 1, 5, 0), Check.NONE, x -> x.less(0, 1, 0));
        Edge.sentence("40", "BY A WORD (voice).");
        ByAWord.refuses(12, (x, s, n) -> x.less(s, n, 0));
        ByAWord.takes(12, (x, s, n) -> x.less(s, n, 0));
        ByAWord.refusesVoices((x, s, voice) -> x.less(s, 2, voice));
        Edge.sentence("40", "(NONE isn't refused.)");
        Edge.asked("no WORD", Scene::laid, Check.NONE, x -> x.less(Scene.EMPTY, 0, 0));
    }

    private static void bestIs(String what, Supplier<WellIsAskedFirst> scene, int n, int depth, int count) {
        Edge.asked(what + ": which", scene, depth, x -> x.best(0, n, 0));
        Edge.asked(what + ": how many", scene, count, x -> x.best(0, n, 1));
    }

    private static void promise41() {
        Edge.sentence("41", "The DEPTH (0 to 40), all else as it is, by which most VOICES get YES, of several the least (what 0), "
            + "how many (1).");
        bestIs("0, of several", eight(33, 5, 0), 1, 0, 8);
        bestIs("40", thirds(Check.PRIEST, 13, 7, 1, 9, 2), 1, 40, 1);
        bestIs("none gets YES: the least", eight(33, 3, 1), 3, 0, 0);
        bestIs("no WORD", eight(33, 5, 0), 0, 0, 0);
        bestIs("no VOICES", Scene::voiceless, 12, 0, 0);
        // 4 comes back at 12 to 14 by PITCH 0, at 11 to 13 by PITCH 1.
        bestIs("the most, not the first", Scene.but(thirds(Check.DEEP, 0, 7, 1, 9, 4), x -> x.voice(Check.DEEP, 0, 1)), 1, 12, 2);
        Edge.sentence("41", "BY A WORD (what).");
        ByAWord.refuses(12, (x, s, n) -> x.best(s, n, 0));
        ByAWord.takes(12, (x, s, n) -> x.best(s, n, 1));
        ByAWord.refusesNumbers("what", NO_WHAT, (x, s, what) -> x.best(s, 2, what));
    }

    private static void promise42() {
        Edge.sentence("42", "VOICES (bits) of which nothing comes back.");
        Edge.asked("all, no WORD", Scene::full, 255, x -> x.mute(Scene.EMPTY, 0));
        Edge.asked("none", Scene::full, 0, x -> x.mute(Scene.THREE, 3));
        Edge.asked("the last, too", word(Scene::full, 4, 11, 18), 53 + 64 + 128, x -> x.mute(0, 3));
        Edge.asked("one SOUND is something", word(Scene::full, 4, 11, 0), 0, x -> x.mute(0, 3));
        Edge.asked("0 is something", eight(0, 5, 0), 0, x -> x.mute(0, 12));
        Edge.asked("no VOICES", Scene::voiceless, 0, x -> x.mute(Scene.WORD, 0));
        Edge.sentence("42", "BY A WORD.");
        ByAWord.refuses(12, (x, s, n) -> x.mute(s, n));
        ByAWord.takes(12, (x, s, n) -> x.mute(s, n));
    }

    private static void promise43() {
        Edge.sentence("43", "VOICES (bits) whose WORD is WEIGHED as that of a VOICE is (itself, too).");
        Edge.asked("all VOID", Scene::full, 255, x -> x.like(Scene.EMPTY, 0, 7));
        Edge.asked("all YES", eight(0, 5, 0), 255, x -> x.like(0, 12, 0));
        Edge.asked("all no", eight(0, 5, 1), 255, x -> x.like(0, 12, 7));
        // 4 is LOST for four; 10 is a YES, 6 is none.
        Supplier<WellIsAskedFirst> four = word(Scene::laid, 4);
        Edge.asked("VOID is no no", four, 53, x -> x.like(0, 1, 5));
        Edge.asked("YES, itself alone", four, 2, x -> x.like(0, 1, 1));
        Edge.asked("no, itself alone", four, 8, x -> x.like(0, 1, 3));
        Edge.sentence("43", "BY A WORD (voice).");
        ByAWord.refuses(12, (x, s, n) -> x.like(s, n, 0));
        ByAWord.takes(12, (x, s, n) -> x.like(s, n, 0));
        ByAWord.refusesVoices((x, s, voice) -> x.like(s, 2, voice));
    }

    private static void promise44() {
        Edge.sentence("44", "Behind how many DAYS (0 to 200), RAIN as it is, DEPTH is first v (0 to 40) or more; NONE.");
        Edge.asked("0 is always so", Scene.thirds(0, 0, 0, 9), 0, x -> x.sinks(0));
        Edge.asked("it is just so", Scene.thirds(0, 0, 40, 9), 0, x -> x.sinks(40));
        Edge.asked("it is more", Scene.thirds(0, 0, 40, 9), 0, x -> x.sinks(39));
        Edge.asked("one DAY", Scene.thirds(0, 0, 39, 0), 1, x -> x.sinks(40));
        Edge.asked("forty DAYS", Scene.thirds(0, 0, 0, 0), 40, x -> x.sinks(40));
        Edge.sentence("44", "BAD.");
        for (int v : new int[] {Integer.MIN_VALUE, -2, -1, 41, 42, Integer.MAX_VALUE}) {
            Edge.refused("v " + v, Scene::laid, Check.BAD, x -> x.sinks(v));
        }
        Edge.sentence("44", "(NONE isn't refused.)");
        Edge.asked("it stays", Scene.thirds(0, 0, 39, 1), Check.NONE, x -> x.sinks(40));
        Edge.asked("it rises", Scene.thirds(0, 0, 39, 9), Check.NONE, x -> x.sinks(40));
        Edge.asked("it stays at 0", Scene.thirds(0, 0, 0, 1), Check.NONE, x -> x.sinks(1));
    }
}
