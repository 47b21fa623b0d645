import java.util.function.Supplier;

/** The sentences on SHELVES and REFUSALS, and those of promises 1 to 8. */
final class EdgeShelves {
    private EdgeShelves() {
    }

    static void run() {
        shelves();
        rows();
        lowestBits();
        promise1();
        promise2();
        promise3();
        promise4();
        promise4Refuses();
        promise5();
        promise6();
        promise7();
        promise8();
        promise8Refuses();
        refusals();
    }

    private static void shelves() {
        Edge.sentence(Edge.COMES, "SHELVES 0 to 7 hold NOTHING (at first), a ROW, or a VOICE.");
        WellIsAskedFirst x = Check.wellOf(Check.VOICE, 0);
        for (int s = 0; s < 8; s++) {
            Edge.due("at first, SHELF " + s, x.holds(s), Check.NONE);
            Edge.due("a ROW, SHELF " + s, x.row(s, s % 5, 1), 1);
            Edge.due("a ROW, SHELF " + s, x.holds(s), s % 5);
            Edge.due("a VOICE, SHELF " + s, x.show(s, 0), 1);
            Edge.due("a VOICE, SHELF " + s, x.holds(s), 10);
        }
        Edge.due("all eight", x.status(10), 8);
        for (int s : new int[] {-1, 8}) {
            Edge.refused("no SHELF " + s, Scene::laid, Check.BAD, y -> y.row(s, 0, 0));
        }
    }

    private static void rows() {
        Edge.sentence(Edge.COMES, "A ROW has a SORT (0 bytes, 1 shorts, 2 ints, 3 longs, 4 booleans) and 0 to 40 elements "
            + "(0, or not so, at first)");
        for (int sort = 0; sort <= 4; sort++) {
            WellIsAskedFirst x = new WellIsAskedFirst();
            Edge.due("0 elements of SORT " + sort, x.row(0, sort, 0), 1);
            Edge.due("it is a ROW", x.holds(0), sort);
            Edge.due("it has no first element", x.set(0, 0, 1), Check.BAD);
            Edge.due("40 elements of SORT " + sort, x.row(0, sort, 40), 1);
            for (int i = 0; i < 40; i++) {
                Edge.due("at first, element " + i, x.element(0, i), 0);
                Edge.due("set, element " + i, x.set(0, i, 1), 1);
            }
            Edge.due("no 41st", x.set(0, 40, 1), Check.BAD);
            Edge.due("a new one", x.row(0, sort, 40), 1);
            for (int i = 0; i < 40; i++) {
                Edge.due("at first in a new one, element " + i, x.element(0, i), 0);
            }
        }
        Edge.refused("41 elements", Scene::laid, Check.BAD, y -> y.row(0, 0, 41));
        Edge.refused("no SORT 5", Scene::laid, Check.BAD, y -> y.row(0, 5, 1));
    }

    private static void keeps(int sort, long v, long kept) {
        WellIsAskedFirst x = new WellIsAskedFirst();
        x.row(0, sort, 1);
        x.set(0, 0, v);
        Edge.due(v + " in SORT " + sort, x.element(0, 0), kept);
    }

    private static void lowestBits() {
        Edge.sentence(Edge.COMES, "what is put in keeps its lowest bits (of booleans: whether it is not 0)");
        keeps(Check.BYTES, 127, 127);
        keeps(Check.BYTES, 128, -128);
        keeps(Check.BYTES, -128, -128);
        keeps(Check.BYTES, -129, 127);
        keeps(Check.BYTES, 256, 0);
        keeps(Check.SHORTS, 32767, 32767);
        keeps(Check.SHORTS, 32768, -32768);
        keeps(Check.SHORTS, -32769, 32767);
        keeps(Check.SHORTS, 65536, 0);
        keeps(Check.INTS, Integer.MAX_VALUE, Integer.MAX_VALUE);
        keeps(Check.INTS, Integer.MAX_VALUE + 1L, Integer.MIN_VALUE);
        keeps(Check.INTS, Integer.MIN_VALUE - 1L, Integer.MAX_VALUE);
        keeps(Check.INTS, 1L << 32, 0);
        keeps(Check.LONGS, Long.MIN_VALUE, Long.MIN_VALUE);
        keeps(Check.LONGS, 1L << 32, 1L << 32);
        Edge.sentence(Edge.COMES, "told they are numbers (1, 0).");
        keeps(Check.BOOLEANS, 0, 0);
        keeps(Check.BOOLEANS, 1, 1);
        keeps(Check.BOOLEANS, 2, 1);
        keeps(Check.BOOLEANS, -1, 1);
        keeps(Check.BOOLEANS, 256, 1);
        keeps(Check.BOOLEANS, 1L << 32, 1);
        keeps(Check.BOOLEANS, Long.MIN_VALUE, 1);
    }

    private static void promise1() {
        Edge.sentence("1", "No VOICES;");
        Edge.due("how many", new WellIsAskedFirst().status(0), 0);
        Edge.refused("none of number 0", Scene::fresh, Check.BAD, x -> x.voiceOf(0, 0));
        Edge.sentence("1", "SHELVES hold NOTHING;");
        for (int s = 0; s < 8; s++) {
            int shelf = s;
            Edge.asked("SHELF " + s, Scene::fresh, Check.NONE, x -> x.holds(shelf));
            Edge.refused("SHELF " + s, Scene::fresh, Check.NOTHING, x -> x.set(shelf, 0, 0));
        }
        Edge.due("how many hold something", new WellIsAskedFirst().status(10), 0);
        Edge.sentence("1", "THE TAPE is empty.");
        Edge.due("its size", new WellIsAskedFirst().status(8), 0);
        Edge.due("wiped", new WellIsAskedFirst().wipe(), 0);
        Edge.due("read", new WellIsAskedFirst().well(), -20);
    }

    private static void promise2() {
        Edge.sentence("2", "SHELF s holds a new ROW: 1.");
        for (int s : new int[] {0, 7}) {
            for (int sort : new int[] {0, 4}) {
                for (int n : new int[] {0, 40}) {
                    WellIsAskedFirst x = new WellIsAskedFirst();
                    Edge.granted("the edges that may be", x, 1, y -> y.row(s, sort, n));
                    Edge.due("it is there", x.holds(s), sort);
                }
            }
        }
        WellIsAskedFirst x = Scene.laid();
        Edge.granted("over a ROW", x, 1, y -> y.row(Scene.WORD, Check.BYTES, 12));
        Edge.due("it is a new one", x.element(Scene.WORD, 0), 0);
        Edge.granted("over a VOICE", x, 1, y -> y.row(Scene.A_VOICE, Check.LONGS, 1));
        Edge.due("it is no VOICE any more", x.holds(Scene.A_VOICE), 3);
        Edge.due("its neighbour stays", x.element(Scene.THREE, 2), 3);
        Edge.sentence("2", "BAD.");
        for (int v : new int[] {Integer.MIN_VALUE, -2, -1, 8, 9, Integer.MAX_VALUE}) {
            Edge.refused("SHELF " + v, Scene::laid, Check.BAD, y -> y.row(v, 0, 1));
        }
        for (int v : new int[] {Integer.MIN_VALUE, -2, -1, 5, 6, Integer.MAX_VALUE}) {
            Edge.refused("SORT " + v, Scene::laid, Check.BAD, y -> y.row(Scene.WORD, v, 1));
        }
        for (int v : new int[] {Integer.MIN_VALUE, -2, -1, 41, 42, Integer.MAX_VALUE}) {
            Edge.refused("elements " + v, Scene::laid, Check.BAD, y -> y.row(Scene.WORD, 0, v));
        }
    }

    private static void promise3() {
        Edge.sentence("3", "Element i of the ROW in SHELF s becomes v: 1.");
        WellIsAskedFirst x = Scene.laid();
        Edge.granted("the first one", x, 1, y -> y.set(Scene.FORTY, 0, 6));
        Edge.granted("the last one", x, 1, y -> y.set(Scene.FORTY, 39, 7));
        Edge.due("the first one", x.element(Scene.FORTY, 0), 6);
        Edge.due("the last one", x.element(Scene.FORTY, 39), 7);
        Edge.due("none between", x.element(Scene.FORTY, 38) + x.element(Scene.FORTY, 1), 0);
        Edge.sentence("3", "BAD SHELF; OTHER; NOTHING; BAD i.");
        for (int s : new int[] {Integer.MIN_VALUE, -1, 8, Integer.MAX_VALUE}) {
            Edge.refused("SHELF " + s, Scene::laid, Check.BAD, y -> y.set(s, 0, 1));
        }
        Edge.refused("a VOICE", Scene::laid, Check.OTHER, y -> y.set(Scene.A_VOICE, 0, 1));
        Edge.refused("OTHER ahead of BAD i", Scene::laid, Check.OTHER, y -> y.set(Scene.A_VOICE, -1, 1));
        Edge.refused("NOTHING", Scene::laid, Check.NOTHING, y -> y.set(Scene.BARE, 0, 1));
        Edge.refused("NOTHING ahead of BAD i", Scene::laid, Check.NOTHING, y -> y.set(Scene.BARE, 40, 1));
        for (int i : new int[] {Integer.MIN_VALUE, -1, 3, 40, Integer.MAX_VALUE}) {
            Edge.refused("i " + i, Scene::laid, Check.BAD, y -> y.set(Scene.THREE, i, 1));
        }
        Edge.refused("i 40 of forty", Scene::laid, Check.BAD, y -> y.set(Scene.FORTY, 40, 1));
        Edge.refused("i 0 of none", Scene::laid, Check.BAD, y -> y.set(Scene.EMPTY, 0, 1));
    }

    private static void rowIs(String what, WellIsAskedFirst x, int s, long... want) {
        for (int i = 0; i < want.length; i++) {
            Edge.due(what + ", element " + i, x.element(s, i), want[i]);
        }
    }

    private static void promise4() {
        Edge.sentence("4", "n elements of the ROW in SHELF p from place i on come to places j on of that in q (as they were): n.");
        WellIsAskedFirst x = new WellIsAskedFirst();
        Scene.row(x, 0, Check.INTS, 1, 2, 3, 4, 5);
        x.row(7, Check.INTS, 5);
        Edge.granted("all", x, 5, y -> y.copy(0, 7, 0, 0, 5));
        rowIs("all", x, 7, 1, 2, 3, 4, 5);
        Edge.granted("the last to the first", x, 1, y -> y.copy(0, 7, 4, 0, 1));
        rowIs("the last to the first", x, 7, 5, 2, 3, 4, 5);
        Edge.granted("the first to the last", x, 1, y -> y.copy(0, 7, 0, 4, 1));
        rowIs("the first to the last", x, 7, 5, 2, 3, 4, 1);
        Edge.granted("none, from and to behind the last", x, 0, y -> y.copy(0, 7, 5, 5, 0));
        rowIs("none", x, 7, 5, 2, 3, 4, 1);
        Edge.granted("over itself, upwards", x, 4, y -> y.copy(0, 0, 0, 1, 4));
        rowIs("as they were", x, 0, 1, 1, 2, 3, 4);
        Edge.granted("over itself, downwards", x, 3, y -> y.copy(0, 0, 2, 0, 3));
        rowIs("as they were", x, 0, 2, 3, 4, 3, 4);
        Edge.granted("onto itself", x, 5, y -> y.copy(0, 0, 0, 0, 5));
        rowIs("onto itself", x, 0, 2, 3, 4, 3, 4);
        x.row(1, Check.INTS, 0);
        Edge.granted("none of none", x, 0, y -> y.copy(1, 1, 0, 0, 0));
        WellIsAskedFirst z = Scene.laid();
        z.row(2, Check.INTS, 40);
        z.set(2, 39, Integer.MIN_VALUE);
        Edge.granted("forty", z, 40, y -> y.copy(2, Scene.FORTY, 0, 0, 40));
        Edge.due("the fortieth", z.element(Scene.FORTY, 39), Integer.MIN_VALUE);
    }

    private static void promise4Refuses() {
        Supplier<WellIsAskedFirst> scene = Scene::laid;
        Edge.sentence("4", "BAD SHELVES; OTHER (also ROWS of two SORTS, if both hold something); NOTHING; BAD the others.");
        for (int s : new int[] {Integer.MIN_VALUE, -1, 8, Integer.MAX_VALUE}) {
            Edge.refused("p " + s, scene, Check.BAD, x -> x.copy(s, 0, 0, 0, 1));
            Edge.refused("q " + s, scene, Check.BAD, x -> x.copy(0, s, 0, 0, 1));
            Edge.refused("BAD p ahead of OTHER", scene, Check.BAD, x -> x.copy(s, Scene.A_VOICE, 0, 0, 1));
            Edge.refused("BAD q ahead of OTHER", scene, Check.BAD, x -> x.copy(Scene.A_VOICE, s, 0, 0, 1));
            Edge.refused("BAD q ahead of NOTHING", scene, Check.BAD, x -> x.copy(Scene.BARE, s, 0, 0, 1));
        }
        Edge.refused("p a VOICE", scene, Check.OTHER, x -> x.copy(Scene.A_VOICE, 0, 0, 0, 1));
        Edge.refused("q a VOICE", scene, Check.OTHER, x -> x.copy(0, Scene.A_VOICE, 0, 0, 1));
        Edge.refused("both a VOICE", scene, Check.OTHER, x -> x.copy(Scene.A_VOICE, Scene.A_VOICE, 0, 0, 1));
        Edge.refused("two SORTS", scene, Check.OTHER, x -> x.copy(Scene.WORD, Scene.FORTY, 0, 0, 1));
        Edge.refused("two SORTS, ahead of BAD", scene, Check.OTHER, x -> x.copy(Scene.WORD, Scene.FORTY, -1, 41, 0));
        Edge.refused("a VOICE, then NOTHING", scene, Check.OTHER, x -> x.copy(Scene.A_VOICE, Scene.BARE, 0, 0, 1));
        Edge.refused("NOTHING, then a VOICE", scene, Check.OTHER, x -> x.copy(Scene.BARE, Scene.A_VOICE, 0, 0, 1));
        Edge.refused("p NOTHING", scene, Check.NOTHING, x -> x.copy(Scene.BARE, 0, 0, 0, 1));
        Edge.refused("q NOTHING", scene, Check.NOTHING, x -> x.copy(Scene.FORTY, Scene.BARE, 0, 0, 1));
        Edge.refused("both NOTHING", scene, Check.NOTHING, x -> x.copy(Scene.BARE, Scene.BARE, 0, 0, 0));
        Edge.refused("NOTHING ahead of BAD", scene, Check.NOTHING, x -> x.copy(Scene.BARE, 0, -1, -1, -1));
        int p = Scene.WORD;
        int q = Scene.THREE;
        int[][] bad = {{-1, 0, 1}, {0, -1, 1}, {0, 0, -1}, {12, 0, 1}, {0, 3, 1}, {0, 0, 4}, {9, 0, 4}, {11, 0, 2},
            {0, 2, 2}, {13, 0, 0}, {0, 4, 0}, {-1, 0, 0}, {0, -1, 0}, {Integer.MAX_VALUE, 0, 1}, {0, Integer.MAX_VALUE, 1},
            {0, 0, Integer.MAX_VALUE}, {1, 1, Integer.MAX_VALUE}, {Integer.MIN_VALUE, 0, 1}, {0, Integer.MIN_VALUE, 1},
            {0, 0, Integer.MIN_VALUE}, {1, 1, Integer.MIN_VALUE}, {Integer.MAX_VALUE, 0, Integer.MAX_VALUE}};
        for (int[] v : bad) {
            Edge.refused("i " + v[0] + " j " + v[1] + " n " + v[2], scene, Check.BAD, x -> x.copy(p, q, v[0], v[1], v[2]));
        }
    }

    private static void promise5() {
        Edge.sentence("5", "Element i of the ROW;");
        Edge.asked("the first one", Scene::laid, 1, x -> x.element(Scene.THREE, 0));
        Edge.asked("the last one", Scene::laid, 3, x -> x.element(Scene.THREE, 2));
        Edge.sentence("5", "0: none, no ROW (nothing is refused).");
        for (int i : new int[] {Integer.MIN_VALUE, -1, 2, 3, 40, Integer.MAX_VALUE}) {
            Edge.asked("none of place " + i, Scene::laid, 0, x -> x.element(Scene.TOO_HIGH, i));
        }
        for (int s : new int[] {Integer.MIN_VALUE, -1, 8, Integer.MAX_VALUE}) {
            Edge.asked("no SHELF " + s, Scene::laid, 0, x -> x.element(s, 0));
        }
        Edge.asked("a VOICE", Scene::laid, 0, x -> x.element(Scene.A_VOICE, 0));
        Edge.asked("NOTHING", Scene::laid, 0, x -> x.element(Scene.BARE, 0));
        Edge.asked("none of none", Scene::laid, 0, x -> x.element(Scene.EMPTY, 0));
        Supplier<WellIsAskedFirst> gone = Scene.but(Scene::laid, x -> x.show(Scene.THREE, 0));
        Edge.asked("a VOICE where a ROW was", gone, 0, x -> x.element(Scene.THREE, 0));
        Supplier<WellIsAskedFirst> taken = Scene.but(Scene::laid, x -> x.show(Scene.THREE, Check.NONE));
        Edge.asked("NOTHING where a ROW was", taken, 0, x -> x.element(Scene.THREE, 0));
        Supplier<WellIsAskedFirst> shorter = Scene.but(Scene::laid, x -> x.row(Scene.THREE, Check.BYTES, 2));
        Edge.asked("behind a shorter ROW", shorter, 0, x -> x.element(Scene.THREE, 2));
    }

    private static void promise6() {
        Edge.sentence("6", "What SHELF s holds: NONE NOTHING, no SHELF; 0 to 4 a ROW by its SORT; 10 and the number of a VOICE.");
        for (int s : new int[] {Integer.MIN_VALUE, -1, 8, Integer.MAX_VALUE, Scene.BARE}) {
            Edge.asked("SHELF " + s, Scene::laid, Check.NONE, x -> x.holds(s));
        }
        for (int sort = 0; sort <= 4; sort++) {
            int of = sort;
            Edge.asked("a ROW", Scene.but(Scene::laid, x -> x.row(7, of, 0)), sort, x -> x.holds(7));
        }
        for (int voice = 0; voice < 8; voice++) {
            int number = voice;
            Edge.asked("a VOICE", Scene.but(Scene::full, x -> x.show(0, number)), 10 + voice, x -> x.holds(0));
        }
    }

    private static void promise7() {
        Edge.sentence("7", "SHELF s holds a VOICE, or NOTHING (voice NONE): 1.");
        for (int s = 0; s < 8; s++) {
            int shelf = s;
            WellIsAskedFirst x = Scene.full();
            Edge.granted("the last VOICE over what there is", x, 1, y -> y.show(shelf, 7));
            Edge.due("it is there", x.holds(s), 17);
            Edge.granted("NOTHING over a VOICE", x, 1, y -> y.show(shelf, Check.NONE));
            Edge.due("NOTHING is there", x.holds(s), Check.NONE);
            Edge.granted("NOTHING over NOTHING", x, 1, y -> y.show(shelf, Check.NONE));
            Edge.granted("the first VOICE over NOTHING", x, 1, y -> y.show(shelf, 0));
            Edge.due("it is there", x.holds(s), 10);
        }
        Edge.sentence("7", "BAD.");
        for (int s : new int[] {Integer.MIN_VALUE, -1, 8, Integer.MAX_VALUE}) {
            Edge.refused("SHELF " + s, Scene::laid, Check.BAD, x -> x.show(s, 0));
            Edge.refused("SHELF " + s, Scene::laid, Check.BAD, x -> x.show(s, Check.NONE));
        }
        for (int voice : new int[] {Integer.MIN_VALUE, -2, 6, 8, Integer.MAX_VALUE}) {
            Edge.refused("VOICE " + voice, Scene::laid, Check.BAD, x -> x.show(Scene.THREE, voice));
        }
        Edge.refused("no VOICES", Scene::voiceless, Check.BAD, x -> x.show(0, 0));
        Edge.refused("no VOICE 8", Scene::full, Check.BAD, x -> x.show(0, 8));
    }

    /** At DEPTH 10 by PITCH 0: 3, 7, 11, 6, lost, 14, 9, 13, 17, 12, 16, lost; DEEP has 10 and 20, too. */
    private static void promise8() {
        Edge.sentence("8", "What the VOICE in SHELF s, taken for one of a KIND, says: VOICE its PITCH; DEEP, PRIEST, STUTTERER, "
            + "PROPHET, CHILD all SOUNDS together that come back of the WORD of all SOUNDS 0 to 11, by its own KIND.");
        int[] sums = {0, 138, 111, 90, 111, 108};
        for (int kind = 1; kind < 6; kind++) {
            int own = kind;
            Supplier<WellIsAskedFirst> scene = Scene.but(Scene::laid, x -> x.show(Scene.A_VOICE, own));
            Edge.asked(own + " by its own KIND", scene, sums[own], x -> x.says(Scene.A_VOICE, own));
            Edge.asked(own + " as a VOICE", scene, 0, x -> x.says(Scene.A_VOICE, Check.VOICE));
            Supplier<WellIsAskedFirst> high = Scene.but(scene, x -> x.pitch(own, 20));
            Edge.asked(own + " as a VOICE of PITCH 20", high, 20, x -> x.says(Scene.A_VOICE, Check.VOICE));
        }
        Supplier<WellIsAskedFirst> child = Scene.but(Scene::laid, x -> {
            x.show(Scene.A_VOICE, Check.CHILD);
            x.pitch(Check.CHILD, 20);
            x.tell(2, 9999);
        });
        Edge.asked("its PITCH, not as it is heard today", child, 20, x -> x.says(Scene.A_VOICE, Check.VOICE));
        Supplier<WellIsAskedFirst> priest = Scene.but(Scene::laid, x -> x.show(Scene.A_VOICE, Check.PRIEST));
        Edge.asked("a PRIEST as DEEP, as a PRIEST", priest, 90, x -> x.says(Scene.A_VOICE, Check.DEEP));
        Supplier<WellIsAskedFirst> prophet = Scene.but(Scene::laid, x -> x.show(Scene.A_VOICE, Check.PROPHET));
        Edge.asked("a PROPHET as a STUTTERER", prophet, 111, x -> x.says(Scene.A_VOICE, Check.STUTTERER));
        Supplier<WellIsAskedFirst> atTop = Scene.but(priest, x -> x.tell(0, 0));
        Edge.asked("0 to 11 as they are", atTop, 66, x -> x.says(Scene.A_VOICE, Check.PRIEST));
    }

    private static void promise8Refuses() {
        Edge.sentence("8", "BAD SHELF, KIND; OTHER (also if it is of no such KIND nor of one under it); NOTHING.");
        for (int s : new int[] {Integer.MIN_VALUE, -1, 8, Integer.MAX_VALUE}) {
            Edge.refused("SHELF " + s, Scene::laid, Check.BAD, x -> x.says(s, 0));
        }
        for (int kind : new int[] {Integer.MIN_VALUE, -1, 6, Integer.MAX_VALUE}) {
            Edge.refused("KIND " + kind, Scene::laid, Check.BAD, x -> x.says(Scene.A_VOICE, kind));
            Edge.refused("BAD ahead of OTHER, KIND " + kind, Scene::laid, Check.BAD, x -> x.says(Scene.WORD, kind));
            Edge.refused("BAD ahead of NOTHING, KIND " + kind, Scene::laid, Check.BAD, x -> x.says(Scene.BARE, kind));
        }
        Edge.refused("a ROW", Scene::laid, Check.OTHER, x -> x.says(Scene.WORD, Check.VOICE));
        Edge.refused("a ROW of none", Scene::laid, Check.OTHER, x -> x.says(Scene.EMPTY, Check.VOICE));
        Edge.refused("NOTHING", Scene::laid, Check.NOTHING, x -> x.says(Scene.BARE, Check.CHILD));
        // By its own KIND: the KINDS that it may be taken for.
        int[] maySay = {0b000001, 0b000011, 0b000101, 0b001011, 0b010101, 0b100001};
        for (int own = 0; own < 6; own++) {
            int voice = own;
            Supplier<WellIsAskedFirst> scene = Scene.but(Scene::laid, x -> x.show(Scene.A_VOICE, voice));
            for (int kind = 0; kind < 6; kind++) {
                int as = kind;
                if ((maySay[own] >> kind & 1) == 1) {
                    Edge.answers(own + " as " + as, scene, x -> x.says(Scene.A_VOICE, as));
                } else {
                    Edge.refused(own + " as " + as, scene, Check.OTHER, x -> x.says(Scene.A_VOICE, as));
                }
            }
        }
    }

    private static void refusals() {
        Edge.sentence(Edge.REFUSALS, "REFUSALS (the call answers the number; nothing changes but how many there were; "
            + "the first that fits as each line has them):");
        WellIsAskedFirst x = Scene.full();
        for (int round = 1; round <= 3; round++) {
            Edge.due("BAD", x.voice(0, 0, 21), Check.BAD);
            Edge.due("how many BAD", x.status(12), 1 + round);
            Edge.due("OTHER", x.set(Scene.A_VOICE, -1, 0), Check.OTHER);
            Edge.due("how many OTHER", x.status(13), 1 + round);
            Edge.due("NOTHING", x.set(Scene.BARE, -1, 0), Check.NOTHING);
            Edge.due("how many NOTHING", x.status(14), 1 + round);
            Edge.due("STUCK", x.heard(Scene.TOO_LOW, 2), Check.STUCK);
            Edge.due("how many STUCK", x.status(15), 1 + round);
            Edge.due("FULL", x.voice(0, 0, 20), Check.FULL);
            Edge.due("how many FULL", x.status(16), round);
        }
        Edge.sentence(Edge.REFUSALS, "-2 BAD a number that may not be, nothing of that number.");
        Edge.refused("a number that may not be", Scene::laid, Check.BAD, y -> y.tell(0, 41));
        Edge.refused("nothing of that number", Scene::laid, Check.BAD, y -> y.lost(6));
        Edge.sentence(Edge.REFUSALS, "-3 OTHER: a SHELF that holds another thing than is wanted.");
        Edge.refused("a VOICE, not a ROW", Scene::laid, Check.OTHER, y -> y.set(Scene.A_VOICE, 0, 0));
        Edge.refused("a ROW, not a VOICE", Scene::laid, Check.OTHER, y -> y.says(Scene.WORD, 0));
        Edge.sentence(Edge.REFUSALS, "-4 NOTHING: a SHELF that holds NOTHING.");
        Edge.refused("no ROW", Scene::laid, Check.NOTHING, y -> y.set(Scene.BARE, 0, 0));
        Edge.refused("no VOICE", Scene::laid, Check.NOTHING, y -> y.says(Scene.BARE, 0));
        Edge.sentence(Edge.REFUSALS, "-5 STUCK: it can't be as things stand (also an element that is no SOUND).");
        Edge.refused("nothing kept", Scene::fresh, Check.STUCK, y -> y.again());
        Edge.refused("40 is no SOUND", Scene::laid, Check.STUCK, y -> y.heard(Scene.TOO_HIGH, 2));
        Edge.refused("-1 is no SOUND", Scene::laid, Check.STUCK, y -> y.heard(Scene.TOO_LOW, 2));
        Edge.sentence(Edge.REFUSALS, "-6 FULL.");
        Edge.refused("no room for a VOICE", Scene::full, Check.FULL, y -> y.voice(0, 0, 0));
        Supplier<WellIsAskedFirst> fullTape = Scene.but(Scene::fresh, y -> Scene.feed(y, " ".repeat(250)));
        Edge.refused("no room on THE TAPE", fullTape, Check.FULL, y -> y.feed(32));
    }
}
