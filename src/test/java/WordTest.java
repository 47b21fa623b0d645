/** Promises 19 to 27 and 36 to 44: what comes of a word. */
public final class WordTest {
    public static void main(String[] args) {
        promise19Echo();
        promise20Sum();
        promise21Weighed();
        promise22Heard();
        promise23When();
        promise24Sure();
        promise25Yeses();
        promise26Tuned();
        promise27Ends();
        promise36Ahead();
        promise37Rains();
        promise38Fairest();
        promise39Alike();
        promise40Less();
        promise41Best();
        promise42Mute();
        promise43Like();
        promise44Sinks();
        byAWord();
        Check.end("WordTest");
    }

    private static void echoIs(WellIsAskedFirst x, int n, int voice, int... want) {
        Check.granted("19: how many", x, want.length, () -> x.echo(0, n, voice, Check.NONE));
        for (int i = 0; i < want.length; i++) {
            Check.due("19: place " + i, x.echo(0, n, voice, i), want[i]);
        }
        Check.refused("19: not so many", x, Check.STUCK, () -> x.echo(0, n, voice, want.length));
    }

    private static void promise19Echo() {
        WellIsAskedFirst x = Check.wellOfAllKinds(0);
        Check.lay(x, 0, Check.BYTES, 1, 4, 2);
        echoIs(x, 3, Check.VOICE, 7, 11);
        echoIs(x, 3, Check.DEEP, 7, 10, 11);
        echoIs(x, 3, Check.STUTTERER, 7, 7, 11);
        echoIs(x, 3, Check.PRIEST, 3, 6, 5);
        echoIs(x, 3, Check.PROPHET, 11, 7, 7);
        echoIs(x, 3, Check.CHILD, 7, 11);
        echoIs(x, 1, Check.PROPHET, 7, 7);
        for (int voice = 0; voice < 6; voice++) {
            echoIs(x, 0, voice);
        }
        Check.lay(x, 0, Check.BYTES, 4, 1);
        echoIs(x, 2, Check.STUTTERER, 7);
        promise19LongEcho();
    }

    private static void promise19LongEcho() {
        WellIsAskedFirst x = Check.wellOfAllKinds(0);
        Check.lay(x, 0, Check.LONGS, 0, 1, 2, 3, 5, 6, 7, 8, 9, 10, 12, 13);
        echoIs(x, 12, Check.STUTTERER, 3, 3, 7, 11, 6, 14, 9, 13, 17, 12, 16, 15, 19);
        echoIs(x, 12, Check.PROPHET, 19, 15, 16, 12, 17, 13, 9, 14, 6, 11, 7, 3, 3);
        Check.refused("19: i -2", x, Check.BAD, () -> x.echo(0, 1, 0, -2));
        Check.refused("19: i huge", x, Check.STUCK, () -> x.echo(0, 1, 0, Integer.MAX_VALUE));
        Check.refused("19: i -2, and nothing there", x, Check.BAD, () -> x.echo(7, 1, 0, -2));
    }

    private static void promise20Sum() {
        WellIsAskedFirst x = Check.wellOfAllKinds(0);
        Check.lay(x, 0, Check.INTS, 1, 4, 2);
        int[] want = {18, 28, 25, 14, 25, 18};
        for (int voice = 0; voice < 6; voice++) {
            int number = voice;
            Check.granted("20: sum by " + voice, x, want[voice], () -> x.sum(0, 3, number));
            Check.granted("20: sum of none", x, 0, () -> x.sum(0, 0, number));
        }
        x.tell(2, 20);
        // A third of 12 is 4: 1 and 8, 2 and 12.
        Check.granted("20: the child's day", x, 23, () -> x.sum(0, 3, Check.CHILD));
    }

    private static void promise21Weighed() {
        WellIsAskedFirst x = Check.wellOfAllKinds(0);
        Check.lay(x, 0, Check.SHORTS, 4, 1, 2);
        Check.granted("21: void", x, Check.NONE, () -> x.weighed(0, 1, Check.VOICE));
        Check.granted("21: void, no word", x, Check.NONE, () -> x.weighed(0, 0, Check.DEEP));
        Check.granted("21: 10 by 5", x, 1, () -> x.weighed(0, 1, Check.DEEP));
        Check.granted("21: 18 by 5", x, 0, () -> x.weighed(0, 3, Check.VOICE));
        x.weigh(5, 3);
        Check.granted("21: 18 by 5, rest 3", x, 1, () -> x.weighed(0, 3, Check.VOICE));
        Check.granted("21: 10 by 5, rest 3", x, 0, () -> x.weighed(0, 1, Check.DEEP));
        x.weigh(9, 0);
        Check.granted("21: 18 by 9", x, 1, () -> x.weighed(0, 3, Check.VOICE));
        // At DEPTH 0 a DEEP one's 0 comes back as 0: a YES, not VOID.
        x.tell(0, 0);
        Check.lay(x, 0, Check.SHORTS, 0);
        Check.granted("21: 0 is no void", x, 1, () -> x.weighed(0, 1, Check.DEEP));
        Check.granted("21: 0 is lost", x, Check.NONE, () -> x.weighed(0, 1, Check.STUTTERER));
    }

    /** Of 1 come back 7, 7, 7 and 7, 3, 7 and 7, 7. */
    private static void promise22Heard() {
        WellIsAskedFirst x = Check.wellOfAllKinds(0);
        Check.lay(x, 0, Check.BYTES, 1);
        Check.granted("22: by 5", x, 0, () -> x.heard(0, 1));
        x.weigh(7, 0);
        Check.granted("22: by 7", x, 55, () -> x.heard(0, 1));
        x.weigh(5, 2);
        Check.granted("22: by 5, rest 2", x, 35, () -> x.heard(0, 1));
        Check.granted("22: no word", x, 0, () -> x.heard(0, 0));
        WellIsAskedFirst y = new WellIsAskedFirst();
        y.row(0, 0, 1);
        Check.granted("22: no voices", y, 0, () -> y.heard(0, 1));
    }

    /** Of 0 comes back a third of DEPTH by PITCH 0: a multiple of 5 at 15, 16, 17. */
    private static WellIsAskedFirst thirds(int kind) {
        WellIsAskedFirst x = Check.wellOf(kind, 0);
        x.row(0, Check.BYTES, 12);
        return x;
    }

    private static void promise23When() {
        WellIsAskedFirst x = thirds(Check.VOICE);
        x.tell(1, 0);
        Check.granted("23: 5 days to 15", x, 5, () -> x.when(0, 1, 0));
        x.tell(0, 17);
        Check.granted("23: now", x, 0, () -> x.when(0, 1, 0));
        x.tell(0, 18);
        Check.granted("23: 12 days to 30", x, 12, () -> x.when(0, 1, 0));
        x.tell(0, 33);
        Check.granted("23: never", x, Check.NONE, () -> x.when(0, 1, 0));
        x.tell(1, 3);
        Check.granted("23: down to 31", x, 1, () -> x.when(0, 1, 0));
        Check.granted("23: no word", x, Check.NONE, () -> x.when(0, 0, 0));
        Check.due("23: nothing passed", x.status(1), 33);
        Check.due("23: nothing passed", x.status(3), 0);
        // A CHILD at 40: a third of 40 and 8 is 16 on day 80 first.
        WellIsAskedFirst y = thirds(Check.CHILD);
        y.tell(0, 40);
        y.weigh(9, 7);
        y.tell(2, 20);
        Check.granted("23: behind 60", y, 60, () -> y.when(0, 1, 0));
        y.tell(2, 19);
        Check.granted("23: not behind 61", y, Check.NONE, () -> y.when(0, 1, 0));
    }

    private static void promise24Sure() {
        WellIsAskedFirst x = thirds(Check.VOICE);
        Check.granted("24: not now", x, 0, () -> x.sure(0, 1, 0));
        x.tell(0, 15);
        x.tell(1, 0);
        Check.granted("24: 15, 16, 17", x, 3, () -> x.sure(0, 1, 0));
        x.tell(0, 17);
        Check.granted("24: 17", x, 1, () -> x.sure(0, 1, 0));
        x.tell(1, 1);
        Check.granted("24: as long as can be", x, 60, () -> x.sure(0, 1, 0));
        WellIsAskedFirst y = thirds(Check.CHILD);
        y.tell(0, 40);
        y.weigh(9, 6);
        y.tell(2, 51);
        Check.granted("24: a third of 45 and 46, to day 79", y, 29, () -> y.sure(0, 1, 0));
        Check.due("24: nothing passed", y.status(3), 51);
    }

    private static void promise25Yeses() {
        WellIsAskedFirst x = thirds(Check.VOICE);
        // 1, 2 (0 is lost), 15, 16, 17, 30, 31, 32.
        Check.granted("25: how many", x, 8, () -> x.yeses(0, 1, 0, 0));
        Check.granted("25: the least", x, 1, () -> x.yeses(0, 1, 0, 1));
        x.weigh(9, 4);
        // 12, 13 (14 is lost), 39, 40.
        Check.granted("25: how many to 40", x, 4, () -> x.yeses(0, 1, 0, 0));
        Check.granted("25: the least", x, 12, () -> x.yeses(0, 1, 0, 1));
        Check.granted("25: none", x, 0, () -> x.yeses(0, 0, 0, 0));
        Check.granted("25: none, the least", x, Check.NONE, () -> x.yeses(0, 0, 0, 1));
        Check.refused("25: what 2", x, Check.BAD, () -> x.yeses(0, 1, 0, 2));
        Check.refused("25: what -1", x, Check.BAD, () -> x.yeses(0, 1, 0, -1));
        Check.due("25: nothing changed", x.status(1), 10);
        WellIsAskedFirst y = thirds(Check.DEEP);
        Check.granted("25: 0 by a DEEP one", y, 0, () -> y.yeses(0, 1, 0, 1));
        Check.granted("25: how many", y, 9, () -> y.yeses(0, 1, 0, 0));
        WellIsAskedFirst z = thirds(Check.PRIEST);
        z.pitch(0, 13);
        z.weigh(9, 2);
        Check.granted("25: 40 alone", z, 1, () -> z.yeses(0, 1, 0, 0));
        Check.granted("25: 40 alone", z, 40, () -> z.yeses(0, 1, 0, 1));
        Check.granted("41: 40 alone", z, 40, () -> z.best(0, 1, 0));
    }

    private static void promise26Tuned() {
        WellIsAskedFirst x = thirds(Check.VOICE);
        Check.granted("26: 5, 6, 7, 20", x, 224 + (1 << 20), () -> x.tuned(0, 1, 0));
        x.tell(0, 15);
        Check.granted("26: 0, 1, 2, 15, 16, 17", x, 7 + 7 * (1 << 15), () -> x.tuned(0, 1, 0));
        x.tell(0, 14);
        Check.granted("26: lost", x, 0, () -> x.tuned(0, 1, 0));
        WellIsAskedFirst y = thirds(Check.CHILD);
        y.tell(2, 50);
        Check.granted("26: a child's day counts", y, 7 + 7 * (1 << 15), () -> y.tuned(0, 1, 0));
        Check.due("26: nothing changed", y.voiceOf(0, 2), 0);
    }

    private static void promise27Ends() {
        WellIsAskedFirst x = Check.wellOf(Check.VOICE, 0);
        Check.lay(x, 0, Check.BYTES, 4, 0, 4, 4, 4, 4, 4, 4, 4, 4, 4, 4);
        Check.granted("27: behind nothing", x, 12, () -> x.ends(0, 0, 0));
        Check.granted("27: behind a lost one", x, 12, () -> x.ends(0, 1, 0));
        Check.granted("27: behind 3 it is 7", x, 1, () -> x.ends(0, 2, 0));
        Check.granted("27: behind 11", x, 1, () -> x.ends(0, 11, 0));
        Check.refused("27: behind 12", x, Check.BAD, () -> x.ends(0, 12, 0));
        x.weigh(5, 3);
        Check.granted("27: the lost one serves", x, 4, () -> x.ends(0, 2, 0));
        // A STUTTERER's first one is twice: 2 times 3 and so on is never odd by WEIGHT 2.
        WellIsAskedFirst y = Check.wellOf(Check.STUTTERER, 0);
        y.row(0, 0, 1);
        y.weigh(2, 1);
        Check.granted("27: none", y, Check.NONE, () -> y.ends(0, 0, 0));
        Check.granted("27: behind one", y, 0, () -> y.ends(0, 1, 0));
    }

    private static void promise36Ahead() {
        WellIsAskedFirst x = new WellIsAskedFirst();
        Check.granted("36: as it is", x, 10, () -> x.ahead(0));
        x.tell(1, 0);
        Check.granted("36: 5 days", x, 15, () -> x.ahead(5));
        Check.granted("36: 30 days", x, 40, () -> x.ahead(30));
        Check.granted("36: 200 days", x, 40, () -> x.ahead(200));
        x.tell(1, 3);
        Check.granted("36: down by 2", x, 2, () -> x.ahead(4));
        Check.granted("36: down to 0", x, 0, () -> x.ahead(6));
        Check.refused("36: 201", x, Check.BAD, () -> x.ahead(201));
        Check.refused("36: -1", x, Check.BAD, () -> x.ahead(-1));
        Check.due("36: nothing changed", x.status(1), 10);
    }

    private static void promise37Rains() {
        WellIsAskedFirst x = thirds(Check.DEEP);
        Check.granted("37: today no rain helps", x, Check.NONE, () -> x.rains(0, 1, 0, 0));
        Check.granted("37: down to 2", x, 9, () -> x.rains(0, 1, 0, 1));
        Check.granted("37: down by 2 a day", x, 3, () -> x.rains(0, 1, 0, 4));
        Check.granted("37: up to 15", x, 0, () -> x.rains(0, 1, 0, 5));
        Check.granted("37: 60 days", x, 2, () -> x.rains(0, 1, 0, 60));
        x.tell(0, 15);
        Check.granted("37: today", x, 0, () -> x.rains(0, 1, 0, 0));
        Check.refused("37: t 61", x, Check.BAD, () -> x.rains(0, 1, 0, 61));
        Check.refused("37: t -1", x, Check.BAD, () -> x.rains(0, 1, 0, -1));
        Check.due("37: nothing changed", x.status(2), 1);
    }

    private static void promise38Fairest() {
        WellIsAskedFirst x = thirds(Check.DEEP);
        x.voice(Check.VOICE, 0, 0);
        Check.granted("38: 3 and 3", x, 3, () -> x.fairest(0, 1));
        x.weigh(5, 1);
        Check.granted("38: 3 by 2 leaves 1", x, 2, () -> x.fairest(0, 1));
        x.weigh(5, 3);
        Check.granted("38: 3 by 4 leaves 3", x, 4, () -> x.fairest(0, 1));
        x.weigh(9, 8);
        Check.granted("38: with rest 8 there is 9 alone", x, 9, () -> x.fairest(0, 1));
        x.voice(Check.DEEP, 0, 9);
        x.voice(Check.DEEP, 0, 9);
        x.voice(Check.DEEP, 0, 9);
        x.weigh(5, 0);
        // 3, 3, 6, 6, 6: by 2 three, by 3 all.
        Check.granted("38: the most", x, 3, () -> x.fairest(0, 1));
        Check.due("38: nothing changed", x.status(4), 5);
        Check.granted("38: no word", x, 2, () -> x.fairest(0, 0));
    }

    private static void promise39Alike() {
        WellIsAskedFirst x = Check.wellOfAllKinds(0);
        Check.lay(x, 0, Check.BYTES, 1, 2);
        Check.granted("39: a child's", x, 1, () -> x.alike(0, 2, Check.VOICE, Check.CHILD));
        Check.granted("39: its own", x, 1, () -> x.alike(0, 2, 4, 4));
        Check.granted("39: a deep one's", x, 1, () -> x.alike(0, 2, Check.VOICE, Check.DEEP));
        Check.granted("39: more of them", x, 0, () -> x.alike(0, 2, Check.VOICE, Check.STUTTERER));
        Check.granted("39: the same ones turned", x, 0, () -> x.alike(0, 2, Check.STUTTERER, Check.PROPHET));
        Check.granted("39: one alone turned", x, 1, () -> x.alike(0, 1, Check.STUTTERER, Check.PROPHET));
        Check.granted("39: none", x, 1, () -> x.alike(0, 0, Check.PRIEST, Check.PROPHET));
        Check.granted("39: a priest's", x, 0, () -> x.alike(0, 2, Check.PRIEST, Check.DEEP));
        // A third of 10 and of 70 is 3 and 23: 1 comes back as 7 by both, 0 as 3 and 23.
        WellIsAskedFirst y = Check.wellOfAllKinds(0);
        y.tell(2, 600);
        Check.lay(y, 0, Check.BYTES, 0, 1);
        Check.lay(y, 1, Check.BYTES, 1, 0);
        Check.granted("39: the first is another", y, 0, () -> y.alike(0, 2, Check.VOICE, Check.CHILD));
        Check.granted("39: the last is another", y, 0, () -> y.alike(1, 2, Check.VOICE, Check.CHILD));
        Check.granted("39: the same one", y, 1, () -> y.alike(1, 1, Check.VOICE, Check.CHILD));
        Check.refused("39: other 6", x, Check.BAD, () -> x.alike(0, 2, 0, 6));
        Check.refused("39: other -1", x, Check.BAD, () -> x.alike(0, 2, 0, -1));
    }

    /** 3, 11, 7 and a lost one. */
    private static void promise40Less() {
        WellIsAskedFirst x = Check.wellOf(Check.VOICE, 0);
        Check.lay(x, 0, Check.BYTES, 0, 2, 1, 4);
        Check.granted("40: without 11 it is 10", x, 1, () -> x.less(0, 3, 0));
        x.weigh(5, 3);
        Check.granted("40: without 3 it is 18", x, 0, () -> x.less(0, 3, 0));
        x.weigh(5, 4);
        Check.granted("40: without 7 it is 14", x, 2, () -> x.less(0, 3, 0));
        x.weigh(5, 1);
        Check.granted("40: without the lost one it is 21", x, 3, () -> x.less(0, 4, 0));
        x.weigh(9, 0);
        Check.granted("40: without the first it is 18", x, 0, () -> x.less(0, 4, 0));
        x.weigh(9, 8);
        Check.granted("40: none", x, Check.NONE, () -> x.less(0, 4, 0));
        Check.granted("40: no word", x, Check.NONE, () -> x.less(0, 0, 0));
        Check.lay(x, 1, Check.BYTES, 0, 0, 0, 0, 0, 0, 0, 0, 0, 0, 0, 1);
        x.weigh(9, 6);
        Check.granted("40: the last of 12 (33 then)", x, 11, () -> x.less(1, 12, 0));
        // A STUTTERER's first one is another then.
        WellIsAskedFirst y = Check.wellOf(Check.STUTTERER, 0);
        Check.lay(y, 0, Check.BYTES, 0, 1);
        y.weigh(7, 0);
        Check.granted("40: 7 and 7 without 3", y, 0, () -> y.less(0, 2, 0));
    }

    private static void promise41Best() {
        WellIsAskedFirst x = thirds(Check.DEEP);
        Check.granted("41: 0", x, 0, () -> x.best(0, 1, 0));
        Check.granted("41: one", x, 1, () -> x.best(0, 1, 1));
        x.voice(Check.DEEP, 0, 1);
        x.weigh(5, 3);
        // 9, 10, 11 and 8, 9, 10.
        Check.granted("41: 9", x, 9, () -> x.best(0, 1, 0));
        Check.granted("41: two", x, 2, () -> x.best(0, 1, 1));
        x.pitch(1, 3);
        Check.granted("41: 6, of one alone", x, 6, () -> x.best(0, 1, 0));
        Check.granted("41: one", x, 1, () -> x.best(0, 1, 1));
        Check.granted("41: no word", x, 0, () -> x.best(0, 0, 0));
        Check.granted("41: no word, none", x, 0, () -> x.best(0, 0, 1));
        Check.refused("41: what 2", x, Check.BAD, () -> x.best(0, 1, 2));
        Check.refused("41: what -1", x, Check.BAD, () -> x.best(0, 1, -1));
    }

    private static void promise42Mute() {
        WellIsAskedFirst x = Check.wellOfAllKinds(0);
        Check.lay(x, 0, Check.BYTES, 4, 11, 1);
        Check.granted("42: 4 is lost", x, 53, () -> x.mute(0, 1));
        Check.granted("42: 4 and 11 are", x, 53, () -> x.mute(0, 2));
        Check.granted("42: 1 is not", x, 0, () -> x.mute(0, 3));
        Check.granted("42: no word", x, 63, () -> x.mute(0, 0));
    }

    private static void promise43Like() {
        WellIsAskedFirst x = Check.wellOfAllKinds(0);
        Check.lay(x, 0, Check.BYTES, 1, 4);
        x.weigh(5, 2);
        Check.granted("43: YES", x, 35, () -> x.like(0, 1, Check.VOICE));
        Check.granted("43: no", x, 28, () -> x.like(0, 1, Check.STUTTERER));
        Check.lay(x, 0, Check.BYTES, 4);
        Check.granted("43: void", x, 53, () -> x.like(0, 1, Check.CHILD));
        Check.granted("43: not void", x, 10, () -> x.like(0, 1, Check.DEEP));
    }

    private static void promise44Sinks() {
        WellIsAskedFirst x = new WellIsAskedFirst();
        Check.granted("44: less than it is", x, 0, () -> x.sinks(0));
        Check.granted("44: as it is", x, 0, () -> x.sinks(10));
        Check.granted("44: it stays", x, Check.NONE, () -> x.sinks(11));
        x.tell(1, 0);
        Check.granted("44: one more", x, 1, () -> x.sinks(11));
        Check.granted("44: the most", x, 30, () -> x.sinks(40));
        x.tell(1, 9);
        Check.granted("44: it rises", x, Check.NONE, () -> x.sinks(40));
        Check.refused("44: 41", x, Check.BAD, () -> x.sinks(41));
        Check.refused("44: -1", x, Check.BAD, () -> x.sinks(-1));
        Check.due("44: nothing changed", x.status(1), 10);
    }

    private interface WordCall {
        long of(WellIsAskedFirst x, int s, int n, int voice);
    }

    private static void byAWord() {
        refusalsByAWord("19", true, (x, s, n, voice) -> x.echo(s, n, voice, Check.NONE));
        refusalsByAWord("20", true, (x, s, n, voice) -> x.sum(s, n, voice));
        refusalsByAWord("21", true, (x, s, n, voice) -> x.weighed(s, n, voice));
        refusalsByAWord("22", false, (x, s, n, voice) -> x.heard(s, n));
        refusalsByAWord("23", true, (x, s, n, voice) -> x.when(s, n, voice));
        refusalsByAWord("24", true, (x, s, n, voice) -> x.sure(s, n, voice));
        refusalsByAWord("25", true, (x, s, n, voice) -> x.yeses(s, n, voice, 0));
        refusalsByAWord("26", true, (x, s, n, voice) -> x.tuned(s, n, voice));
        refusalsByAWord("27", true, (x, s, n, voice) -> x.ends(s, n, voice));
        refusalsByAWord("37", true, (x, s, n, voice) -> x.rains(s, n, voice, 0));
        refusalsByAWord("38", false, (x, s, n, voice) -> x.fairest(s, n));
        refusalsByAWord("39", true, (x, s, n, voice) -> x.alike(s, n, voice, 0));
        refusalsByAWord("40", true, (x, s, n, voice) -> x.less(s, n, voice));
        refusalsByAWord("41", false, (x, s, n, voice) -> x.best(s, n, 0));
        refusalsByAWord("42", false, (x, s, n, voice) -> x.mute(s, n));
        refusalsByAWord("43", true, (x, s, n, voice) -> x.like(s, n, voice));
    }

    private static void refusalsByAWord(String promise, boolean takesVoice, WordCall call) {
        WellIsAskedFirst x = Check.wellOf(Check.VOICE, 0);
        Check.lay(x, 0, Check.LONGS, 39, 0, 1L << 32);
        Check.lay(x, 3, Check.BYTES, 40);
        Check.lay(x, 4, Check.BYTES, -1);
        x.show(1, 0);
        String what = promise + ": by a word: ";
        Check.refused(what + "shelf 8", x, Check.BAD, () -> call.of(x, 8, 1, 0));
        Check.refused(what + "shelf -1", x, Check.BAD, () -> call.of(x, -1, 1, 0));
        Check.refused(what + "n 13", x, Check.BAD, () -> call.of(x, 2, 13, 0));
        Check.refused(what + "n -1", x, Check.BAD, () -> call.of(x, 1, -1, 0));
        Check.refused(what + "n huge", x, Check.BAD, () -> call.of(x, 0, Integer.MAX_VALUE, 0));
        if (takesVoice) {
            Check.refused(what + "voice 1", x, Check.BAD, () -> call.of(x, 2, 1, 1));
            Check.refused(what + "voice -1", x, Check.BAD, () -> call.of(x, 1, 1, -1));
        }
        Check.refused(what + "a voice there", x, Check.OTHER, () -> call.of(x, 1, 0, 0));
        Check.refused(what + "nothing there", x, Check.NOTHING, () -> call.of(x, 2, 0, 0));
        Check.refused(what + "fewer elements", x, Check.BAD, () -> call.of(x, 0, 4, 0));
        Check.refused(what + "40 is no sound", x, Check.STUCK, () -> call.of(x, 3, 1, 0));
        Check.refused(what + "-1 is no sound", x, Check.STUCK, () -> call.of(x, 4, 1, 0));
        Check.refused(what + "2 to the 32 is no sound", x, Check.STUCK, () -> call.of(x, 0, 3, 0));
        Check.holds(what + "39 and 0 are sounds", call.of(x, 0, 2, 0) >= Check.NONE);
    }
}
