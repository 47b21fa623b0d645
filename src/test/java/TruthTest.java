/** Promises 49 to 55: what changes the well in truth, the image, the status. */
public final class TruthTest {
    public static void main(String[] args) {
        promise49Shout();
        promise50Days();
        promise51Drawn();
        promise51DrawnRefuses();
        promise52Seed();
        promise53And54Image();
        promise54AgainAndShelves();
        promise55Status();
        Check.end("TruthTest");
    }

    private static void promise49Shout() {
        WellIsAskedFirst x = Check.wellOf(Check.VOICE, 0);
        Check.lay(x, 0, Check.BYTES, 12, 4, 40);
        x.show(1, 0);
        Check.granted("49: YES", x, 1, () -> x.shout(0, 1, 0));
        Check.due("49: done", x.status(6), 1);
        Check.due("49: not refused", x.status(7), 0);
        x.weigh(5, 1);
        Check.granted("49: no", x, 0, () -> x.shout(0, 1, 0));
        Check.due("49: refused", x.status(7), 1);
        Check.lay(x, 3, Check.BYTES, 4);
        Check.granted("49: void", x, Check.NONE, () -> x.shout(3, 1, 0));
        Check.due("49: void is refused", x.status(7), 2);
        Check.due("49: done as ahead", x.status(6), 1);
        Check.due("49: the day is the same", x.status(3), 0);
        Check.refused("49: shelf 8", x, Check.BAD, () -> x.shout(8, 1, 0));
        Check.refused("49: n 13", x, Check.BAD, () -> x.shout(0, 13, 0));
        Check.refused("49: n -1", x, Check.BAD, () -> x.shout(1, -1, 0));
        Check.refused("49: voice 1", x, Check.BAD, () -> x.shout(1, 1, 1));
        Check.refused("49: voice -1", x, Check.BAD, () -> x.shout(2, 1, -1));
        Check.refused("49: a voice", x, Check.OTHER, () -> x.shout(1, 1, 0));
        Check.refused("49: nothing", x, Check.NOTHING, () -> x.shout(2, 1, 0));
        Check.refused("49: fewer", x, Check.BAD, () -> x.shout(0, 4, 0));
        Check.refused("49: no sound", x, Check.STUCK, () -> x.shout(0, 3, 0));
    }

    private static void promise50Days() {
        WellIsAskedFirst x = new WellIsAskedFirst();
        x.tell(1, 0);
        Check.granted("50: one", x, 11, () -> x.days(1));
        Check.due("50: day", x.status(3), 1);
        Check.due("50: depth", x.status(1), 11);
        Check.granted("50: sixty", x, 40, () -> x.days(60));
        Check.due("50: day", x.status(3), 61);
        x.tell(1, 9);
        Check.granted("50: rain", x, 16, () -> x.days(3));
        Check.granted("50: not below 0", x, 0, () -> x.days(3));
        x.tell(2, 9990);
        x.days(60);
        Check.due("50: the last day", x.status(3), 9999);
        Check.refused("50: none", x, Check.BAD, () -> x.days(0));
        Check.refused("50: 61", x, Check.BAD, () -> x.days(61));
        Check.refused("50: -1", x, Check.BAD, () -> x.days(-1));
    }

    private static int next(int seed) {
        return seed * 1103515245 + 12345;
    }

    private static int below(int seed, int n) {
        return (seed >>> 16) % n;
    }

    private static void promise51Drawn() {
        WellIsAskedFirst x = Check.wellOfAllKinds(3);
        Check.lay(x, 0, Check.BYTES, 1, 2, 5);
        x.weigh(2, 0);
        WellIsAskedFirst y = Check.wellOfAllKinds(3);
        Check.lay(y, 0, Check.BYTES, 1, 2, 5);
        y.weigh(2, 0);
        int seed = 1;
        for (int k : new int[] {1, 2, 40}) {
            int count = 0;
            for (int day = 0; day < k; day++) {
                seed = next(seed);
                y.tell(1, below(seed, 10));
                seed = next(seed);
                count += y.shout(0, 3, below(seed, 6)) == 1 ? 1 : 0;
                y.days(1);
            }
            int wanted = count;
            Check.granted("51: drawn " + k, x, wanted, () -> x.drawn(0, 3, k));
            Check.due("51: seed", x.status(9), seed);
            for (int what = 1; what <= 7; what++) {
                Check.due("51: status(" + what + ")", x.status(what), y.status(what));
            }
        }
        Check.holds("51: some got YES", x.status(6) > 5 && x.status(7) > 5);
        WellIsAskedFirst z = Check.wellOf(Check.DEEP, 0);
        z.row(0, Check.BYTES, 0);
        z.drawn(0, 0, 1);
        // 1103527590 has 16838 above.
        Check.due("51: the first draw", z.status(2), 8);
        Check.due("51: depth then", z.status(1), 3);
        Check.due("51: two draws a day", z.status(9), next(1103527590));
    }

    private static void promise51DrawnRefuses() {
        WellIsAskedFirst x = new WellIsAskedFirst();
        Check.lay(x, 0, Check.BYTES, 0, 40);
        Check.refused("51: no voices", x, Check.STUCK, () -> x.drawn(0, 1, 1));
        Check.refused("51: no voices, no word", x, Check.NOTHING, () -> x.drawn(1, 1, 1));
        x.voice(0, 0, 0);
        x.show(2, 0);
        Check.refused("51: k 0", x, Check.BAD, () -> x.drawn(1, 1, 0));
        Check.refused("51: k 41", x, Check.BAD, () -> x.drawn(2, 1, 41));
        Check.refused("51: k -1", x, Check.BAD, () -> x.drawn(0, 1, -1));
        Check.refused("51: n 13", x, Check.BAD, () -> x.drawn(0, 13, 1));
        Check.refused("51: shelf -1", x, Check.BAD, () -> x.drawn(-1, 1, 1));
        Check.refused("51: a voice", x, Check.OTHER, () -> x.drawn(2, 1, 1));
        Check.refused("51: nothing", x, Check.NOTHING, () -> x.drawn(1, 1, 1));
        Check.refused("51: fewer", x, Check.BAD, () -> x.drawn(0, 3, 1));
        Check.refused("51: no sound", x, Check.STUCK, () -> x.drawn(0, 2, 1));
    }

    private static void promise52Seed() {
        WellIsAskedFirst x = Check.wellOf(Check.VOICE, 0);
        x.row(0, 0, 0);
        Check.granted("52: at first", x, 1, () -> x.seed(Integer.MIN_VALUE));
        Check.granted("52: then", x, Integer.MIN_VALUE, () -> x.seed(-1));
        Check.due("52: it is so", x.status(9), -1);
        x.drawn(0, 0, 1);
        // -1 becomes -1103502900, whose upper 16 bits are 48697.
        Check.due("52: upper bits have no sign", x.status(2), 7);
    }

    private static void promise53And54Image() {
        WellIsAskedFirst x = Check.wellOfAllKinds(4);
        Check.lay(x, 0, Check.BYTES, 1);
        Check.refused("54: nothing kept", x, Check.STUCK, () -> x.again());
        x.weigh(9, 0);
        Check.due("53: 9 by 9", x.shout(0, 1, 0), 1);
        Check.due("53: a PRIEST's 7 by 9", x.shout(0, 1, 3), 0);
        x.weigh(9, 3);
        x.seed(77);
        int[] kept = new int[11];
        for (int what = 0; what < 11; what++) {
            kept[what] = x.status(what);
        }
        Check.granted("53: image", x, 1, () -> x.image());
        changeAll(x);
        for (int round = 0; round < 2; round++) {
            Check.granted("54: again", x, 1, () -> x.again());
            for (int what : new int[] {0, 1, 2, 3, 4, 5, 6, 7, 9}) {
                Check.due("54: status(" + what + ")", x.status(what), kept[what]);
            }
            Check.due("54: pitch", x.voiceOf(2, 2), 4);
            Check.due("54: a", x.voiceOf(2, 1), 2);
            Check.due("54: the tape is as it was", x.wipe(), round == 0 ? 1 : 0);
            Check.due("54: rows are as they were", x.element(0, 0), round == 0 ? 2 : 3);
            Check.due("54: refusals are as they were", x.status(12), round + 1);
            x.set(0, 0, 3);
            x.pitch(2, 21);
            x.pitch(2, 9);
            x.days(3);
        }
        Check.granted("53: another image", x, 1, () -> x.image());
        x.tell(0, 0);
        x.again();
        Check.due("53: the later one", x.voiceOf(2, 2), 9);
        Check.due("53: the later one", x.status(3), 3);
    }

    private static void changeAll(WellIsAskedFirst x) {
        x.voice(0, 0, 0);
        x.pitch(2, 19);
        x.tell(0, 39);
        x.tell(1, 7);
        x.tell(2, 500);
        x.weigh(4, 1);
        x.set(0, 0, 2);
        for (int voice = 0; voice < 6; voice++) {
            x.shout(0, 1, voice);
        }
        x.drawn(0, 1, 40);
        x.feed(65);
        x.feed(256);
    }

    private static void promise54AgainAndShelves() {
        WellIsAskedFirst x = Check.wellOf(Check.VOICE, 1);
        x.image();
        x.voice(Check.DEEP, 0, 2);
        x.show(0, 0);
        x.show(1, 1);
        x.row(2, 3, 4);
        x.pitch(0, 15);
        WellIsAskedFirst z = Check.wellOf(Check.VOICE, 1);
        z.image();
        z.voice(Check.VOICE, 0, 0);
        z.show(0, 1);
        z.show(7, 1);
        z.again();
        Check.due("54: no shelf holds it", z.status(10), 0);
        x.again();
        Check.due("54: a voice that is", x.holds(0), 10);
        Check.due("54: it has what was kept", x.says(0, Check.VOICE), 1);
        Check.due("54: a voice that is not", x.holds(1), Check.NONE);
        Check.due("54: a row", x.holds(2), 3);
        Check.due("54: shelves that hold something", x.status(10), 2);
        Check.due("54: voices", x.status(0), 1);
        Check.refused("54: voice 1 is no more", x, Check.BAD, () -> x.lost(1));
        Check.due("54: the next voice", x.voice(Check.PRIEST, 0, 0), 1);
        Check.due("54: the shelf stays empty", x.holds(1), Check.NONE);
        WellIsAskedFirst y = new WellIsAskedFirst();
        y.image();
        y.voice(0, 0, 0);
        y.show(7, 0);
        y.again();
        Check.due("54: no voices", y.holds(7), Check.NONE);
    }

    private static void promise55Status() {
        WellIsAskedFirst x = Check.wellOfAllKinds(0);
        x.tell(0, 33);
        x.tell(1, 4);
        x.tell(2, 55);
        x.weigh(8, 6);
        x.row(0, 0, 2);
        x.row(3, 0, 2);
        x.show(7, 3);
        x.shout(0, 0, 0);
        x.feed(1);
        x.feed(2);
        x.seed(-5);
        x.feed(-1);
        x.set(7, 0, 0);
        x.set(7, 0, 0);
        x.set(6, 0, 0);
        x.set(6, 0, 0);
        x.set(6, 0, 0);
        for (int i = 0; i < 4; i++) {
            x.again();
        }
        x.voice(0, 0, 0);
        x.voice(0, 0, 0);
        for (int i = 0; i < 5; i++) {
            x.voice(0, 0, 0);
        }
        int[] want = {8, 33, 4, 55, 8, 6, 0, 1, 2, -5, 3, -1, 1, 2, 3, 4, 5, -1};
        for (int what = 0; what < want.length; what++) {
            int asked = what;
            Check.granted("55: status(" + what + ")", x, want[what], () -> x.status(asked));
        }
        Check.granted("55: another what", x, Check.NONE, () -> x.status(-1));
        Check.granted("55: another what", x, Check.NONE, () -> x.status(Integer.MAX_VALUE));
        Check.granted("55: another what", x, Check.NONE, () -> x.status(Integer.MIN_VALUE));
    }
}
