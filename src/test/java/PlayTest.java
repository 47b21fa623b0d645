/** Promises 33 to 35: suits, buckets, odds. */
public final class PlayTest {
    public static void main(String[] args) {
        promise33Suits();
        promise33SuitsOfEight();
        promise33SuitsRefuses();
        promise34Buckets();
        promise34BucketsAt40();
        promise34BucketsRefuses();
        promise35Odds();
        promise35OddsRefuses();
        Check.end("PlayTest");
    }

    /** Of 0 comes back a third of DEPTH by PITCH 0. */
    private static WellIsAskedFirst thirds(int kind) {
        WellIsAskedFirst x = Check.wellOf(kind, 0);
        x.row(0, Check.BYTES, 1);
        return x;
    }

    private static void orderIs(WellIsAskedFirst x, int most, int... order) {
        Check.granted("33: how many", x, most, () -> x.suits(0, 1, Check.NONE));
        for (int i = 0; i < order.length; i++) {
            int place = i;
            Check.granted("33: place " + i, x, order[i], () -> x.suits(0, 1, place));
        }
        Check.refused("33: not so many", x, Check.STUCK, () -> x.suits(0, 1, order.length));
    }

    private static void promise33Suits() {
        WellIsAskedFirst x = thirds(Check.VOICE);
        orderIs(x, 0, 0);
        x.voice(Check.DEEP, 0, 0);
        x.tell(0, 21);
        x.weigh(5, 2);
        // The VOICE has nothing at 21, but 7 at 22; the DEEP one has 7 at both.
        orderIs(x, 2, 1, 0);
        x.tell(0, 40);
        x.weigh(9, 4);
        // 13 for both: DEPTH stays 40.
        orderIs(x, 2, 0, 1);
        x.tell(0, 14);
        x.weigh(5, 0);
        orderIs(x, 1, 0, 1);
        x.voice(Check.DEEP, 0, 20);
        x.tell(0, 23);
        // 7, 8, 8 by PITCH 0 and 14, 14, 15 by PITCH 20: 8 is wanted, so the last one shouts at 23.
        x.weigh(5, 3);
        orderIs(x, 2, 2, 0, 1);
        // 14 is the last one's at 23 and at 24: it need not be the first.
        x.weigh(5, 4);
        orderIs(x, 1, 0, 2, 1);
        x.weigh(5, 0);
        orderIs(x, 1, 0, 1, 2);
        Check.due("33: nothing changed", x.status(1), 23);
    }

    /** Eight DEEP ones that are to have a third of DEPTH and PITCH of 8: each may shout at two or three places. */
    private static void promise33SuitsOfEight() {
        WellIsAskedFirst x = new WellIsAskedFirst();
        x.row(0, Check.BYTES, 1);
        x.tell(0, 13);
        x.weigh(9, 8);
        for (int pitch = 4; pitch < 12; pitch++) {
            x.voice(Check.DEEP, 0, pitch);
        }
        Check.due("33: all eight", x.suits(0, 1, Check.NONE), 8);
        int[] order = firstOrderByAll(x);
        for (int i = 0; i < 8; i++) {
            Check.due("33: place " + i + " by all orders", x.suits(0, 1, i), order[i]);
        }
        Check.due("33: only the last one has 8 at 13", order[0], 7);
    }

    /** The first best order, found by trying all. */
    private static int[] firstOrderByAll(WellIsAskedFirst x) {
        int[] order = new int[x.status(0)];
        int[] best = new int[order.length];
        int[] bits = new int[order.length];
        int depth = x.status(1);
        for (int place = 0; place < order.length; place++) {
            x.tell(0, Math.min(40, depth + place));
            bits[place] = x.heard(0, 1);
        }
        x.tell(0, depth);
        tryAll(order, 0, 0, 0, bits, best, new int[] {-1});
        return best;
    }

    private static void tryAll(int[] order, int place, int gone, int count, int[] bits, int[] best, int[] most) {
        if (place == order.length) {
            if (count > most[0]) {
                most[0] = count;
                System.arraycopy(order, 0, best, 0, order.length);
            }
            return;
        }
        for (int voice = 0; voice < order.length; voice++) {
            if ((gone >> voice & 1) == 0) {
                order[place] = voice;
                tryAll(order, place + 1, gone | 1 << voice, count + (bits[place] >> voice & 1), bits, best, most);
            }
        }
    }

    private static void promise33SuitsRefuses() {
        WellIsAskedFirst x = new WellIsAskedFirst();
        Check.lay(x, 0, Check.BYTES, 0, 40);
        Check.granted("33: no voices", x, 0, () -> x.suits(0, 1, Check.NONE));
        Check.refused("33: no voices, no place", x, Check.STUCK, () -> x.suits(0, 1, 0));
        Check.refused("33: i -2", x, Check.BAD, () -> x.suits(1, 1, -2));
        Check.refused("33: shelf 8", x, Check.BAD, () -> x.suits(8, 1, 0));
        Check.refused("33: n 13", x, Check.BAD, () -> x.suits(0, 13, 0));
        Check.refused("33: nothing", x, Check.NOTHING, () -> x.suits(1, 1, 0));
        Check.refused("33: fewer", x, Check.BAD, () -> x.suits(0, 3, 0));
        Check.refused("33: no sound", x, Check.STUCK, () -> x.suits(0, 2, Check.NONE));
        x.voice(0, 0, 0);
        x.show(1, 0);
        Check.refused("33: a voice", x, Check.OTHER, () -> x.suits(1, 1, 0));
        Check.refused("33: i huge", x, Check.STUCK, () -> x.suits(0, 1, Integer.MAX_VALUE));
    }

    private static void bucketsAre(WellIsAskedFirst x, int depth, int k, int can, int move) {
        x.tell(0, depth);
        Check.granted("34: whether at " + depth + " in " + k, x, can, () -> x.buckets(0, 1, 0, k, 0));
        Check.granted("34: which at " + depth + " in " + k, x, move, () -> x.buckets(0, 1, 0, k, 1));
        Check.due("34: nothing changed", x.status(1), depth);
    }

    /** YES at 0, 1, 2, 15, 16, 17, 30, 31, 32. */
    private static void promise34Buckets() {
        WellIsAskedFirst x = thirds(Check.DEEP);
        bucketsAre(x, 15, 0, 1, Check.NONE);
        bucketsAre(x, 14, 0, 0, Check.NONE);
        bucketsAre(x, 14, 1, 1, 2);
        bucketsAre(x, 15, 1, 1, 1);
        bucketsAre(x, 16, 1, 1, 0);
        bucketsAre(x, 18, 1, 1, 0);
        bucketsAre(x, 19, 1, 0, Check.NONE);
        bucketsAre(x, 15, 2, 1, 2);
        bucketsAre(x, 16, 2, 1, 1);
        bucketsAre(x, 17, 2, 1, 0);
        bucketsAre(x, 14, 2, 0, Check.NONE);
        bucketsAre(x, 0, 2, 1, 0);
        bucketsAre(x, 2, 2, 1, 0);
        bucketsAre(x, 3, 2, 0, Check.NONE);
        bucketsAre(x, 14, 3, 1, 2);
        bucketsAre(x, 13, 3, 0, Check.NONE);
        bucketsAre(x, 16, 8, 1, 1);
        bucketsAre(x, 15, 8, 1, 2);
        bucketsAre(x, 14, 8, 0, Check.NONE);
        bucketsAre(x, 14, 7, 1, 2);
    }

    private static void promise34BucketsAt40() {
        WellIsAskedFirst x = thirds(Check.DEEP);
        x.weigh(9, 4);
        // YES at 12, 13, 14, 39, 40: none can draw beyond 40.
        bucketsAre(x, 40, 2, 1, 1);
        bucketsAre(x, 39, 2, 1, 2);
        bucketsAre(x, 38, 2, 0, Check.NONE);
        bucketsAre(x, 40, 8, 1, 1);
    }

    private static void promise34BucketsRefuses() {
        WellIsAskedFirst x = thirds(Check.VOICE);
        x.show(1, 0);
        Check.lay(x, 3, Check.BYTES, 40);
        Check.refused("34: k 9", x, Check.BAD, () -> x.buckets(0, 1, 0, 9, 0));
        Check.refused("34: k -1", x, Check.BAD, () -> x.buckets(1, 1, 0, -1, 0));
        Check.refused("34: what 2", x, Check.BAD, () -> x.buckets(2, 1, 0, 1, 2));
        Check.refused("34: what -1", x, Check.BAD, () -> x.buckets(0, 1, 0, 1, -1));
        Check.refused("34: voice 1", x, Check.BAD, () -> x.buckets(0, 1, 1, 1, 0));
        Check.refused("34: n 13", x, Check.BAD, () -> x.buckets(0, 13, 0, 1, 0));
        Check.refused("34: shelf 8", x, Check.BAD, () -> x.buckets(8, 1, 0, 1, 0));
        Check.refused("34: a voice", x, Check.OTHER, () -> x.buckets(1, 1, 0, 1, 0));
        Check.refused("34: nothing", x, Check.NOTHING, () -> x.buckets(2, 1, 0, 1, 0));
        Check.refused("34: fewer", x, Check.BAD, () -> x.buckets(0, 2, 0, 1, 0));
        Check.refused("34: no sound", x, Check.STUCK, () -> x.buckets(3, 1, 0, 1, 0));
    }

    private static void oddsAre(WellIsAskedFirst x, int t, int odds, int mean) {
        Check.granted("35: how likely in " + t, x, odds, () -> x.odds(0, 1, 0, t, 0));
        Check.granted("35: the mean in " + t, x, mean, () -> x.odds(0, 1, 0, t, 1));
    }

    private static void promise35Odds() {
        WellIsAskedFirst x = thirds(Check.DEEP);
        oddsAre(x, 0, 0, 10000);
        // 2 to 11, and 2 alone has YES.
        oddsAre(x, 1, 100000, 6500);
        x.tell(0, 15);
        oddsAre(x, 0, 1000000, 15000);
        // 7 to 16: 15 and 16.
        oddsAre(x, 1, 200000, 11500);
        x.tell(0, 0);
        oddsAre(x, 1, 1000000, 100);
        // 0 in 9 of 10 ways, else 1; then 0, 1, 2 alone: (9 times 1 + 1 times (2 + 1)) of 100.
        oddsAre(x, 2, 1000000, 120);
        x.tell(0, 40);
        oddsAre(x, 1, 100000, 36400);
        x.weigh(9, 4);
        // 40 in two ways and 39 in one.
        oddsAre(x, 1, 300000, 36400);
        x.weigh(5, 0);
        x.tell(0, 20);
        int yeses = 0;
        int depths = 0;
        for (int way = 0; way < 1000; way++) {
            int depth = 20 + 3 - way / 100 - way / 10 % 10 - way % 10;
            // From 20 only the last day can come to 0.
            depth = Math.max(0, depth);
            yeses += depth / 3 % 5 == 0 ? 1 : 0;
            depths += depth;
        }
        oddsAre(x, 3, 1000 * yeses, depths);
        Check.due("35: nothing changed", x.status(1), 20);
        Check.due("35: nothing changed", x.status(2), 1);
        // A CHILD's PITCH is that of the day then: a third of 2 to 11 and 1 is 3 for 8, 9, 10.
        WellIsAskedFirst y = thirds(Check.CHILD);
        y.tell(2, 9);
        y.weigh(9, 3);
        oddsAre(y, 1, 300000, 6500);
        y.tell(2, 0);
        oddsAre(y, 1, 300000, 6500);
        y.weigh(9, 4);
        y.tell(2, 9);
        oddsAre(y, 1, 100000, 6500);
        y.tell(2, 8);
        oddsAre(y, 1, 0, 6500);
    }

    private static void promise35OddsRefuses() {
        WellIsAskedFirst x = thirds(Check.VOICE);
        x.show(1, 0);
        Check.lay(x, 3, Check.BYTES, 40);
        Check.refused("35: t 4", x, Check.BAD, () -> x.odds(0, 1, 0, 4, 0));
        Check.refused("35: t -1", x, Check.BAD, () -> x.odds(1, 1, 0, -1, 0));
        Check.refused("35: what 2", x, Check.BAD, () -> x.odds(2, 1, 0, 1, 2));
        Check.refused("35: what -1", x, Check.BAD, () -> x.odds(0, 1, 0, 1, -1));
        Check.refused("35: voice 1", x, Check.BAD, () -> x.odds(0, 1, 1, 1, 0));
        Check.refused("35: n 13", x, Check.BAD, () -> x.odds(0, 13, 0, 1, 0));
        Check.refused("35: shelf 8", x, Check.BAD, () -> x.odds(8, 1, 0, 1, 0));
        Check.refused("35: a voice", x, Check.OTHER, () -> x.odds(1, 1, 0, 1, 0));
        Check.refused("35: nothing", x, Check.NOTHING, () -> x.odds(2, 1, 0, 1, 0));
        Check.refused("35: fewer", x, Check.BAD, () -> x.odds(0, 2, 0, 1, 0));
        Check.refused("35: no sound", x, Check.STUCK, () -> x.odds(3, 1, 0, 1, 0));
        Check.granted("35: lost is no yes", x, 1000000, () -> x.odds(0, 1, 0, 0, 0) + x.tell(0, 14) * 100000);
        Check.granted("35: lost is no yes", x, 0, () -> x.odds(0, 1, 0, 0, 0));
    }
}
