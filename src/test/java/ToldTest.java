/** Promises 29 to 32 and 48: told echoes and told days. */
public final class ToldTest {
    public static void main(String[] args) {
        promise29Depths();
        promise30Fits();
        promise31Below();
        promise32Next();
        promise48Judge();
        promise48JudgeRefuses();
        byAWordAndAnEcho();
        Check.end("ToldTest");
    }

    /** Of 0 comes back a third of DEPTH by PITCH 0, but at multiples of 7. */
    private static WellIsAskedFirst thirds(int kind) {
        WellIsAskedFirst x = Check.wellOf(kind, 0);
        Check.lay(x, 0, Check.BYTES, 0, 1);
        return x;
    }

    private static void depthsAre(WellIsAskedFirst x, int n, int m, int count, int least, int greatest) {
        Check.granted("29: how many", x, count, () -> x.depths(0, n, 1, m, 0, 0));
        Check.granted("29: the least", x, least, () -> x.depths(0, n, 1, m, 0, 1));
        Check.granted("29: the greatest", x, greatest, () -> x.depths(0, n, 1, m, 0, 2));
        Check.granted("31: below", x, count == 0 ? 1 : 0, () -> x.below(0, n, 1, m, 0));
    }

    private static void promise29Depths() {
        WellIsAskedFirst x = thirds(Check.VOICE);
        Check.lay(x, 1, Check.LONGS, 3, 7, 0, 0, 0, 0, 0, 0, 0, 0, 0, 0, 0);
        depthsAre(x, 1, 1, 3, 9, 11);
        depthsAre(x, 2, 2, 3, 9, 11);
        depthsAre(x, 1, 0, 6, 0, 35);
        depthsAre(x, 0, 0, 41, 0, 40);
        depthsAre(x, 1, 2, 0, Check.NONE, Check.NONE);
        depthsAre(x, 2, 1, 0, Check.NONE, Check.NONE);
        depthsAre(x, 1, 13, 0, Check.NONE, Check.NONE);
        promise29DepthsOfThirds();
    }

    private static void promise29DepthsOfThirds() {
        WellIsAskedFirst x = thirds(Check.VOICE);
        Check.lay(x, 1, Check.LONGS, 2);
        depthsAre(x, 1, 1, 2, 6, 8);
        x.set(1, 0, 13);
        depthsAre(x, 1, 1, 2, 39, 40);
        x.set(1, 0, 40);
        depthsAre(x, 1, 1, 0, Check.NONE, Check.NONE);
        x.set(1, 0, -1);
        depthsAre(x, 1, 1, 0, Check.NONE, Check.NONE);
        x.set(1, 0, 3 + (1L << 32));
        depthsAre(x, 1, 1, 0, Check.NONE, Check.NONE);
        WellIsAskedFirst y = Check.wellOf(Check.DEEP, 2);
        Check.lay(y, 0, Check.BYTES, 0);
        Check.lay(y, 1, Check.BYTES, 0);
        depthsAre(y, 1, 1, 1, 0, 0);
        WellIsAskedFirst z = Check.wellOf(Check.PRIEST, 13);
        Check.lay(z, 0, Check.BYTES, 0);
        Check.lay(z, 1, Check.BYTES, 11);
        depthsAre(z, 1, 1, 1, 40, 40);
        Check.refused("29: what 3", z, Check.BAD, () -> z.depths(7, 1, 1, 1, 0, 3));
        Check.refused("29: what -1", z, Check.BAD, () -> z.depths(0, 1, 1, 1, 0, -1));
        Check.due("29: nothing changed", x.status(1), 10);
    }

    /** Of 1 come back 7, 7, 7 and 7, 3, 7 and 7, 7 at DEPTH 10 by PITCH 0. */
    private static void promise30Fits() {
        WellIsAskedFirst x = Check.wellOf(Check.PRIEST, 0);
        Check.lay(x, 0, Check.BYTES, 1, 4, 0);
        Check.lay(x, 1, Check.BYTES, 7, 7);
        Check.granted("30: kinds of 7", x, 35, () -> x.fits(0, 1, 1, 1, 0, 0));
        Check.granted("30: kinds of 7, 7", x, 20, () -> x.fits(0, 1, 1, 2, 0, 0));
        Check.granted("30: kinds that lose 4", x, 33, () -> x.fits(0, 2, 1, 1, 0, 0));
        Check.granted("30: none", x, 0, () -> x.fits(0, 2, 1, 0, 0, 0));
        Check.granted("30: all", x, 63, () -> x.fits(0, 0, 1, 0, 0, 0));
        Check.lay(x, 1, Check.BYTES, 3);
        Check.granted("30: kinds of 3", x, 8, () -> x.fits(0, 1, 1, 1, 0, 0));
        // A PRIEST's 1 by a third of 5 and PITCH, which is to be 1: 0; 4 is to be 1 and 2 times 6: 13 to 15.
        Check.granted("30: pitches of 3", x, 1, () -> x.fits(0, 1, 1, 1, 0, 1));
        x.set(1, 0, 13);
        Check.granted("30: pitches of 13", x, 7 << 13, () -> x.fits(0, 1, 1, 1, 0, 1));
        x.set(1, 0, 17);
        Check.granted("30: pitches of 17", x, 3 << 19, () -> x.fits(0, 1, 1, 1, 0, 1));
        WellIsAskedFirst y = Check.wellOf(Check.CHILD, 0);
        y.tell(2, 20);
        Check.lay(y, 0, Check.BYTES, 0);
        Check.lay(y, 1, Check.BYTES, 4);
        Check.granted("30: a child is as if it were 2 higher", y, 7, () -> y.fits(0, 1, 1, 1, 0, 1));
        Check.granted("30: as a child alone", y, 32, () -> y.fits(0, 1, 1, 1, 0, 0));
        Check.due("30: nothing changed", y.voiceOf(0, 0), Check.CHILD);
        Check.due("30: nothing changed", y.voiceOf(0, 2), 0);
        Check.refused("30: what 2", y, Check.BAD, () -> y.fits(0, 1, 1, 1, 0, 2));
        Check.refused("30: what -1", y, Check.BAD, () -> y.fits(0, 1, 1, 1, 0, -1));
    }

    private static void promise31Below() {
        WellIsAskedFirst x = thirds(Check.STUTTERER);
        Check.lay(x, 1, Check.BYTES, 2, 2, 5);
        Check.granted("31: just the water", x, 0, () -> x.below(0, 2, 1, 3, 0));
        x.set(1, 1, 3);
        Check.granted("31: somebody", x, 1, () -> x.below(0, 2, 1, 3, 0));
    }

    private static void promise32Next() {
        WellIsAskedFirst x = thirds(Check.VOICE);
        Check.lay(x, 1, Check.BYTES, 3, 0);
        // 9, 10, 11 have one third: only what is lost can part them, 3 at 11 first.
        Check.granted("32: 3", x, 3, () -> x.next(0, 1, 1, 1, 0));
        Check.lay(x, 1, Check.BYTES, 5);
        // 7 alone loses 0 and has 5 for 1.
        Check.granted("32: one depth", x, Check.NONE, () -> x.next(0, 2, 1, 1, 0));
        Check.lay(x, 1, Check.BYTES, 40);
        Check.granted("32: none", x, Check.NONE, () -> x.next(0, 1, 1, 1, 0));
        x.set(1, 0, 2);
        // 6 and 8: 1 is lost at 6 alone.
        Check.granted("32: two depths", x, 1, () -> x.next(0, 1, 1, 1, 0));
        x.set(1, 0, 13);
        // 39 and 40: 2 is lost at 40 alone.
        Check.granted("32: to 40", x, 2, () -> x.next(0, 1, 1, 1, 0));
        // 0, 7, 14, 21, 28, 35 lose 0; their thirds are all others.
        Check.granted("32: nothing came back", x, 1, () -> x.next(0, 1, 1, 0, 0));
        Check.lay(x, 0, Check.BYTES, 1);
        Check.lay(x, 1, Check.BYTES, 1);
        // 0, 1, 2 have one third: at best one of them is lost, 0 first.
        Check.granted("32: from 0 on", x, 0, () -> x.next(0, 1, 1, 1, 0));
        WellIsAskedFirst y = thirds(Check.DEEP);
        Check.lay(y, 1, Check.BYTES, 3);
        Check.granted("32: none parts them: the first", y, 0, () -> y.next(0, 1, 1, 1, 0));
        // All DEPTHS: 0 has 14 answers, three DEPTHS each, and no SOUND has more.
        Check.granted("32: all depths", y, 0, () -> y.next(0, 0, 1, 0, 0));
        Check.due("32: nothing changed", y.status(1), 10);
    }

    private static void promise48Judge() {
        WellIsAskedFirst x = Check.wellOf(Check.DEEP, 0);
        x.voice(Check.VOICE, 0, 0);
        x.row(0, Check.BYTES, 1);
        x.tell(0, 14);
        x.tell(1, 0);
        // 14: 4; 15, 16, 17: 5; 18: 6; the VOICE has nothing at 14 and 21.
        Check.lay(x, 1, Check.BYTES, 0, 0, 1, 1, 0, 1, 1, 1, 0, 0, 1, 0, 1, 0, 1, -1);
        for (int m = 0; m <= 8; m++) {
            int twos = m;
            Check.granted("48: all is so", x, Check.NONE, () -> x.judge(0, 1, 1, twos));
        }
        x.set(1, 7, 0);
        Check.granted("48: the fourth is wrong", x, 3, () -> x.judge(0, 1, 1, 8));
        Check.granted("48: not of three", x, Check.NONE, () -> x.judge(0, 1, 1, 3));
        x.set(1, 15, 0);
        x.set(1, 7, 1);
        Check.granted("48: nothing is no no", x, 7, () -> x.judge(0, 1, 1, 8));
        x.set(1, 0, 1);
        Check.granted("48: nothing at 14", x, 0, () -> x.judge(0, 1, 1, 8));
        x.set(1, 1, -1);
        x.set(1, 4, 2);
        Check.granted("48: no such voice", x, 2, () -> x.judge(0, 1, 1, 8));
        x.set(1, 4, -1);
        Check.granted("48: no such voice", x, 2, () -> x.judge(0, 1, 1, 8));
        x.set(1, 3, 2);
        Check.granted("48: no such answer", x, 1, () -> x.judge(0, 1, 1, 8));
        Check.due("48: nothing changed", x.status(1), 14);
        Check.due("48: nothing changed", x.status(3), 0);
        x.row(2, Check.LONGS, 40);
        x.tell(1, 1);
        x.tell(0, 10);
        Check.granted("48: 20 twos of no", x, Check.NONE, () -> x.judge(0, 1, 2, 20));
        x.set(2, 38, 1L << 32);
        Check.granted("48: no such voice, far off", x, 19, () -> x.judge(0, 1, 2, 20));
        x.set(2, 37, 1L << 32);
        Check.granted("48: no such answer, far off", x, 18, () -> x.judge(0, 1, 2, 20));
        // A CHILD's PITCH goes with the days: a third of 10 and 2 is 4 from day 20 on.
        WellIsAskedFirst y = Check.wellOf(Check.CHILD, 0);
        y.row(0, Check.BYTES, 1);
        y.tell(2, 18);
        y.weigh(4, 0);
        Check.lay(y, 1, Check.BYTES, 0, 0, 0, 0, 0, 1, 0, 1);
        Check.granted("48: a child's days", y, Check.NONE, () -> y.judge(0, 1, 1, 4));
    }

    private static void promise48JudgeRefuses() {
        WellIsAskedFirst x = Check.wellOf(Check.VOICE, 0);
        Check.lay(x, 0, Check.BYTES, 0, 40);
        Check.lay(x, 1, Check.BYTES, 0, 0, 0);
        x.show(2, 0);
        Check.refused("48: m 21", x, Check.BAD, () -> x.judge(0, 1, 1, 21));
        Check.refused("48: m -1", x, Check.BAD, () -> x.judge(0, 1, 1, -1));
        Check.refused("48: m huge", x, Check.BAD, () -> x.judge(0, 1, 1, 1 << 31));
        Check.refused("48: m huge", x, Check.BAD, () -> x.judge(0, 1, 1, (1 << 31) + 1));
        Check.refused("48: shelf p", x, Check.BAD, () -> x.judge(2, 1, 8, 1));
        Check.refused("48: shelf p", x, Check.BAD, () -> x.judge(2, 1, -1, 1));
        Check.refused("48: shelf s", x, Check.BAD, () -> x.judge(8, 1, 1, 1));
        Check.refused("48: n 13", x, Check.BAD, () -> x.judge(2, 13, 1, 1));
        Check.refused("48: p a voice", x, Check.OTHER, () -> x.judge(3, 1, 2, 1));
        Check.refused("48: s a voice", x, Check.OTHER, () -> x.judge(2, 1, 3, 1));
        Check.refused("48: p nothing", x, Check.NOTHING, () -> x.judge(0, 1, 3, 1));
        Check.refused("48: s nothing", x, Check.NOTHING, () -> x.judge(3, 1, 1, 1));
        Check.refused("48: three are no two twos", x, Check.BAD, () -> x.judge(0, 2, 1, 2));
        Check.refused("48: n 3 of two", x, Check.BAD, () -> x.judge(0, 3, 1, 1));
        Check.refused("48: no sound", x, Check.STUCK, () -> x.judge(0, 2, 1, 1));
        x.row(4, Check.BYTES, 5);
        Check.refused("48: five are no three twos", x, Check.BAD, () -> x.judge(0, 1, 4, 3));
        Check.granted("48: five are two twos", x, Check.NONE, () -> x.judge(0, 1, 4, 2));
        Check.granted("48: one two of three elements", x, Check.NONE, () -> x.judge(0, 1, 1, 1));
    }

    private interface EchoCall {
        long of(WellIsAskedFirst x, int s, int n, int p, int m, int voice);
    }

    private static void byAWordAndAnEcho() {
        refusals("29", (x, s, n, p, m, voice) -> x.depths(s, n, p, m, voice, 0));
        refusals("30", (x, s, n, p, m, voice) -> x.fits(s, n, p, m, voice, 1));
        refusals("31", (x, s, n, p, m, voice) -> x.below(s, n, p, m, voice));
        refusals("32", (x, s, n, p, m, voice) -> x.next(s, n, p, m, voice));
    }

    private static void refusals(String promise, EchoCall call) {
        WellIsAskedFirst x = Check.wellOf(Check.VOICE, 0);
        Check.lay(x, 0, Check.BYTES, 0, 40);
        Check.lay(x, 1, Check.BYTES, 99, -1, 0);
        x.show(2, 0);
        String what = promise + ": by a word: ";
        Check.refused(what + "shelf s", x, Check.BAD, () -> call.of(x, 8, 1, 2, 1, 0));
        Check.refused(what + "n 13", x, Check.BAD, () -> call.of(x, 0, 13, 2, 1, 0));
        Check.refused(what + "n -1", x, Check.BAD, () -> call.of(x, 0, -1, 2, 1, 0));
        Check.refused(what + "shelf p", x, Check.BAD, () -> call.of(x, 2, 1, 8, 1, 0));
        Check.refused(what + "shelf p", x, Check.BAD, () -> call.of(x, 2, 1, -1, 1, 0));
        Check.refused(what + "m 14", x, Check.BAD, () -> call.of(x, 2, 1, 1, 14, 0));
        Check.refused(what + "m -1", x, Check.BAD, () -> call.of(x, 2, 1, 1, -1, 0));
        Check.refused(what + "voice", x, Check.BAD, () -> call.of(x, 2, 1, 1, 1, 1));
        Check.refused(what + "voice", x, Check.BAD, () -> call.of(x, 2, 1, 1, 1, -1));
        Check.refused(what + "s a voice", x, Check.OTHER, () -> call.of(x, 2, 1, 3, 1, 0));
        Check.refused(what + "p a voice", x, Check.OTHER, () -> call.of(x, 3, 1, 2, 1, 0));
        Check.refused(what + "s nothing", x, Check.NOTHING, () -> call.of(x, 3, 1, 1, 4, 0));
        Check.refused(what + "p nothing", x, Check.NOTHING, () -> call.of(x, 0, 3, 3, 1, 0));
        Check.refused(what + "fewer in s", x, Check.BAD, () -> call.of(x, 0, 3, 1, 1, 0));
        Check.refused(what + "fewer in p", x, Check.BAD, () -> call.of(x, 0, 2, 1, 4, 0));
        Check.refused(what + "no sound", x, Check.STUCK, () -> call.of(x, 0, 2, 1, 1, 0));
        Check.holds(what + "an echo may be what it is", call.of(x, 0, 1, 1, 3, 0) >= Check.NONE);
        Check.holds(what + "one shelf for both", call.of(x, 0, 1, 0, 2, 0) >= Check.NONE);
    }
}
