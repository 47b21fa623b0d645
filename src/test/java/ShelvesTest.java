/** Promises 1 to 8: a new object, shelves, rows, and voices on shelves. */
public final class ShelvesTest {
    public static void main(String[] args) {
        promise1NewObject();
        promise2Row();
        promise3Set();
        promise3KeepsLowestBits();
        promise4Copy();
        promise4Refuses();
        promise5Element();
        promise6Holds();
        promise7Show();
        promise8Says();
        promise8SaysByWhatStands();
        Check.end("ShelvesTest");
    }

    private static void promise1NewObject() {
        WellIsAskedFirst x = new WellIsAskedFirst();
        int[] want = {0, 10, 1, 0, 5, 0, 0, 0, 0, 1, 0, -1, 0, 0, 0, 0, 0};
        for (int what = 0; what < want.length; what++) {
            Check.due("1: status(" + what + ")", x.status(what), want[what]);
        }
        for (int s = 0; s < 8; s++) {
            Check.due("1: holds(" + s + ")", x.holds(s), Check.NONE);
        }
        Check.due("1: wipe()", x.wipe(), 0);
        Check.refused("1: again()", x, Check.STUCK, () -> x.again());
        WellIsAskedFirst other = new WellIsAskedFirst();
        other.row(0, 0, 3);
        other.tell(0, 3);
        Check.due("1: objects are apart", new WellIsAskedFirst().status(1), 10);
        Check.due("1: objects are apart", new WellIsAskedFirst().holds(0), Check.NONE);
    }

    private static void promise2Row() {
        WellIsAskedFirst x = new WellIsAskedFirst();
        for (int sort = 0; sort <= 4; sort++) {
            Check.due("2: row of sort " + sort, x.row(sort, sort, 40), 1);
            Check.due("2: holds", x.holds(sort), sort);
            Check.due("2: element at first", x.element(sort, 39), 0);
        }
        Check.lay(x, 7, Check.INTS, 5, 6, 7);
        Check.due("2: a new row over an old one", x.row(7, Check.INTS, 3), 1);
        Check.due("2: it is new", x.element(7, 1), 0);
        Check.due("2: no elements", x.row(6, 2, 0), 1);
        Check.due("2: holds a row of none", x.holds(6), 2);
        Check.refused("2: set in a row of none", x, Check.BAD, () -> x.set(6, 0, 1));
        x.voice(0, 0, 0);
        x.show(5, 0);
        Check.due("2: over a voice", x.row(5, 1, 1), 1);
        Check.due("2: holds", x.holds(5), 1);
        Check.refused("2: shelf -1", x, Check.BAD, () -> x.row(-1, 0, 0));
        Check.refused("2: shelf 8", x, Check.BAD, () -> x.row(8, 0, 0));
        Check.refused("2: sort -1", x, Check.BAD, () -> x.row(0, -1, 0));
        Check.refused("2: sort 5", x, Check.BAD, () -> x.row(0, 5, 0));
        Check.refused("2: n -1", x, Check.BAD, () -> x.row(0, 0, -1));
        Check.refused("2: n 41", x, Check.BAD, () -> x.row(0, 0, 41));
        Check.refused("2: n huge", x, Check.BAD, () -> x.row(0, 0, Integer.MAX_VALUE));
        Check.due("2: nothing of a refused one", x.element(7, 0), 0);
    }

    private static void promise3Set() {
        WellIsAskedFirst x = new WellIsAskedFirst();
        x.voice(0, 0, 0);
        x.show(1, 0);
        x.row(0, Check.LONGS, 3);
        x.row(3, Check.LONGS, 3);
        Check.granted("3: set", x, 1, () -> x.set(0, 2, 77));
        Check.due("3: element", x.element(0, 2), 77);
        Check.due("3: its neighbour", x.element(0, 1), 0);
        Check.due("3: another shelf's", x.element(3, 2), 0);
        Check.refused("3: shelf 8", x, Check.BAD, () -> x.set(8, 0, 1));
        Check.refused("3: shelf -1", x, Check.BAD, () -> x.set(-1, 0, 1));
        Check.refused("3: a voice", x, Check.OTHER, () -> x.set(1, 0, 1));
        Check.refused("3: a voice, and i wrong", x, Check.OTHER, () -> x.set(1, -1, 1));
        Check.refused("3: nothing", x, Check.NOTHING, () -> x.set(2, 0, 1));
        Check.refused("3: nothing, and i wrong", x, Check.NOTHING, () -> x.set(2, -1, 1));
        Check.refused("3: i 3", x, Check.BAD, () -> x.set(0, 3, 1));
        Check.refused("3: i -1", x, Check.BAD, () -> x.set(0, -1, 1));
        Check.refused("3: i huge", x, Check.BAD, () -> x.set(0, Integer.MIN_VALUE, 1));
    }

    private static void promise3KeepsLowestBits() {
        WellIsAskedFirst x = new WellIsAskedFirst();
        long v = 0x123456789ABCDEF0L;
        long[] want = {(byte) 0xF0, (short) 0xDEF0, 0x9ABCDEF0, v, 1};
        for (int sort = 0; sort <= 4; sort++) {
            Check.lay(x, sort, sort, v, 255, 1L << 32, -1);
            Check.due("3: lowest bits of sort " + sort, x.element(sort, 0), want[sort]);
        }
        Check.due("3: 255 in a byte", x.element(0, 1), -1);
        Check.due("3: 255 in a short", x.element(1, 1), 255);
        Check.due("3: 2 to the 32 in an int", x.element(2, 2), 0);
        Check.due("3: 2 to the 32 in a boolean", x.element(4, 2), 1);
        Check.due("3: -1 in a boolean", x.element(4, 3), 1);
        x.set(4, 0, 0);
        Check.due("3: 0 in a boolean", x.element(4, 0), 0);
    }

    private static void promise4Copy() {
        WellIsAskedFirst x = new WellIsAskedFirst();
        Check.lay(x, 0, Check.INTS, 1, 2, 3, 4, 5);
        Check.lay(x, 1, Check.INTS, 0, 0, 0);
        Check.granted("4: copy", x, 2, () -> x.copy(0, 1, 3, 1, 2));
        checkRow("4: copied", x, 1, 0, 4, 5);
        Check.granted("4: none at the ends", x, 0, () -> x.copy(0, 1, 5, 3, 0));
        Check.granted("4: up the same row", x, 4, () -> x.copy(0, 0, 0, 1, 4));
        checkRow("4: as they were", x, 0, 1, 1, 2, 3, 4);
        Check.granted("4: down the same row", x, 4, () -> x.copy(0, 0, 1, 0, 4));
        checkRow("4: as they were", x, 0, 1, 2, 3, 4, 4);
        x.row(2, Check.LONGS, 40);
        x.row(3, Check.LONGS, 40);
        x.set(2, 39, 1L << 40);
        Check.granted("4: all 40", x, 40, () -> x.copy(2, 3, 0, 0, 40));
        Check.due("4: the last one", x.element(3, 39), 1L << 40);
    }

    private static void promise4Refuses() {
        WellIsAskedFirst x = new WellIsAskedFirst();
        Check.lay(x, 0, Check.INTS, 1, 2, 3);
        Check.lay(x, 1, Check.INTS, 4, 5);
        x.row(2, Check.SHORTS, 3);
        x.voice(0, 0, 0);
        x.show(3, 0);
        Check.refused("4: shelf p", x, Check.BAD, () -> x.copy(8, 0, 0, 0, 1));
        Check.refused("4: shelf q", x, Check.BAD, () -> x.copy(0, -1, 0, 0, 1));
        Check.refused("4: shelf q, p a voice", x, Check.BAD, () -> x.copy(3, 8, 0, 0, 1));
        Check.refused("4: p a voice", x, Check.OTHER, () -> x.copy(3, 0, 0, 0, 1));
        Check.refused("4: q a voice", x, Check.OTHER, () -> x.copy(0, 3, 0, 0, 1));
        Check.refused("4: two sorts", x, Check.OTHER, () -> x.copy(0, 2, 0, 0, 1));
        Check.refused("4: two sorts, none", x, Check.OTHER, () -> x.copy(0, 2, 9, 9, -1));
        Check.refused("4: a voice and nothing", x, Check.OTHER, () -> x.copy(3, 4, 0, 0, 1));
        Check.refused("4: nothing and a voice", x, Check.OTHER, () -> x.copy(4, 3, 0, 0, 1));
        Check.refused("4: p nothing", x, Check.NOTHING, () -> x.copy(4, 0, 0, 0, 1));
        Check.refused("4: q nothing", x, Check.NOTHING, () -> x.copy(0, 4, -1, 0, 1));
        Check.refused("4: i -1", x, Check.BAD, () -> x.copy(0, 1, -1, 0, 1));
        Check.refused("4: j -1", x, Check.BAD, () -> x.copy(0, 1, 0, -1, 1));
        Check.refused("4: n -1", x, Check.BAD, () -> x.copy(0, 1, 0, 0, -1));
        Check.refused("4: beyond p", x, Check.BAD, () -> x.copy(0, 1, 2, 0, 2));
        Check.refused("4: beyond q", x, Check.BAD, () -> x.copy(0, 1, 0, 1, 2));
        Check.refused("4: none, but i beyond", x, Check.BAD, () -> x.copy(0, 1, 4, 0, 0));
        Check.refused("4: huge together", x, Check.BAD, () -> x.copy(0, 1, Integer.MAX_VALUE, 0, 1));
        Check.refused("4: n huge", x, Check.BAD, () -> x.copy(0, 1, 1, 1, Integer.MAX_VALUE));
        checkRow("4: nothing came", x, 1, 4, 5);
    }

    private static void checkRow(String what, WellIsAskedFirst x, int s, long... want) {
        for (int i = 0; i < want.length; i++) {
            Check.due(what + ", place " + i, x.element(s, i), want[i]);
        }
    }

    private static void promise5Element() {
        WellIsAskedFirst x = new WellIsAskedFirst();
        Check.lay(x, 0, Check.LONGS, 5, -6);
        x.voice(0, 0, 0);
        Check.granted("5: element", x, -6, () -> x.element(0, 1));
        Check.granted("5: behind the last", x, 0, () -> x.element(0, 2));
        Check.granted("5: place -1", x, 0, () -> x.element(0, -1));
        Check.granted("5: nothing", x, 0, () -> x.element(1, 0));
        Check.granted("5: shelf 8", x, 0, () -> x.element(8, 0));
        Check.granted("5: shelf -1", x, 0, () -> x.element(-1, 0));
        Check.granted("5: a shorter row", x, 1, () -> x.row(0, Check.LONGS, 1));
        Check.granted("5: what was behind", x, 0, () -> x.element(0, 1));
        Check.lay(x, 0, Check.LONGS, 5);
        x.show(0, 0);
        Check.granted("5: a voice", x, 0, () -> x.element(0, 0));
    }

    private static void promise6Holds() {
        WellIsAskedFirst x = Check.wellOfAllKinds(3);
        Check.granted("6: nothing", x, Check.NONE, () -> x.holds(0));
        Check.granted("6: shelf 8", x, Check.NONE, () -> x.holds(8));
        Check.granted("6: shelf -1", x, Check.NONE, () -> x.holds(-1));
        x.row(7, Check.BOOLEANS, 1);
        Check.granted("6: a row", x, 4, () -> x.holds(7));
        x.show(7, 4);
        Check.granted("6: a voice", x, 14, () -> x.holds(7));
        x.show(7, Check.NONE);
        Check.granted("6: nothing again", x, Check.NONE, () -> x.holds(7));
    }

    private static void promise7Show() {
        WellIsAskedFirst x = Check.wellOf(Check.DEEP, 4);
        Check.granted("7: show", x, 1, () -> x.show(2, 0));
        Check.due("7: holds", x.holds(2), 10);
        Check.granted("7: nothing", x, 1, () -> x.show(2, Check.NONE));
        Check.due("7: holds nothing", x.holds(2), Check.NONE);
        Check.granted("7: nothing over nothing", x, 1, () -> x.show(3, Check.NONE));
        Check.lay(x, 4, Check.LONGS, 1);
        Check.granted("7: over a row", x, 1, () -> x.show(4, 0));
        Check.refused("7: no row any more", x, Check.OTHER, () -> x.set(4, 0, 1));
        Check.refused("7: shelf 8", x, Check.BAD, () -> x.show(8, 0));
        Check.refused("7: shelf -1", x, Check.BAD, () -> x.show(-1, Check.NONE));
        Check.refused("7: voice 1", x, Check.BAD, () -> x.show(0, 1));
        Check.refused("7: voice -2", x, Check.BAD, () -> x.show(0, -2));
    }

    /** At DEPTH 10 by PITCH 0: 3, 7, 11, 6, lost, 14, 9, 13, 17, 12, 16, lost: 108; DEEP has 10 and 20, too. */
    private static void promise8Says() {
        WellIsAskedFirst x = Check.wellOfAllKinds(0);
        int[] sums = {108, 138, 111, 90, 111, 108};
        for (int kind = Check.VOICE; kind <= Check.CHILD; kind++) {
            x.pitch(kind, kind % 2);
            x.show(kind, kind);
        }
        for (int own = Check.VOICE; own <= Check.CHILD; own++) {
            for (int kind = Check.VOICE; kind <= Check.CHILD; kind++) {
                int s = own;
                int as = kind;
                boolean isSo = own == kind || kind == Check.VOICE
                    || own == Check.PRIEST && kind == Check.DEEP
                    || own == Check.PROPHET && kind == Check.STUTTERER;
                String what = "8: " + own + " says as " + kind;
                if (isSo) {
                    Check.granted(what, x, kind == Check.VOICE ? own % 2 : soundsByParity(own, sums), () -> x.says(s, as));
                } else {
                    Check.refused(what, x, Check.OTHER, () -> x.says(s, as));
                }
            }
        }
        x.row(6, 0, 12);
        Check.refused("8: a row", x, Check.OTHER, () -> x.says(6, Check.VOICE));
        Check.refused("8: nothing", x, Check.NOTHING, () -> x.says(7, Check.DEEP));
        Check.refused("8: shelf 8", x, Check.BAD, () -> x.says(8, Check.VOICE));
        Check.refused("8: kind 6", x, Check.BAD, () -> x.says(7, 6));
        Check.refused("8: kind -1", x, Check.BAD, () -> x.says(6, -1));
    }

    /** PITCH 1 is as PITCH 0 at DEPTH 10 (a third of 11); a PRIEST has a third of 6: 66 and 2 times 24. */
    private static int soundsByParity(int kind, int[] sums) {
        return kind == Check.PRIEST ? 66 + 2 * 24 : sums[kind];
    }

    private static void promise8SaysByWhatStands() {
        WellIsAskedFirst x = Check.wellOf(Check.CHILD, 2);
        x.show(0, 0);
        x.tell(2, 9999);
        Check.due("8: a child's pitch is its own", x.says(0, Check.VOICE), 2);
        x.pitch(0, 9);
        Check.due("8: its pitch as it is now", x.says(0, Check.VOICE), 9);
        x.tell(2, 0);
        x.pitch(0, 0);
        x.tell(0, 0);
        // Nothing is moved at DEPTH 0; 0 and 7 are lost.
        Check.due("8: by the depth as it is", x.says(0, Check.CHILD), 66 - 7);
    }
}
